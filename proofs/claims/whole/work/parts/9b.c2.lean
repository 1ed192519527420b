def lb (a : Nat) : Nat := if a.testBit 0 then 1 else if a.testBit 1 then 2 else if a.testBit 2 then 4 else if a.testBit 3 then 8 else if a.testBit 4 then 16 else if a.testBit 5 then 32 else if a.testBit 6 then 64 else if a.testBit 7 then 128 else 0
theorem lb_lt (a : Nat) : lb a < 256 := by
  unfold lb
  repeat (split; decide)
  decide
theorem zlow : ∀ a : Nat, a < 256 → zand (a : Int) (-(a : Int)) = ((lb a : Nat) : Int) := by decide +kernel
theorem gRs_lt {N : Nat → Nat} {W A : Nat} : gRs N W A < 256 := by
  unfold gRs
  by_cases h : ∃ S, gRe N W A S
  · rw [dif_pos h]; exact (Classical.choose_spec h).1
  · rw [dif_neg h]; decide
noncomputable def cPs (N : Nat → Nat) (W : Nat) : Nat → Nat → Nat
  | 0, _ => 0
  | s + 1, left => if left = 0 then 0 else 1 + cPs N W s (left ^^^ (left &&& gRs N W (lb left)))
def dIt (N : Nat → Nat) (W p : Nat) : Nat → Nat
  | 0 => 2 ^ p
  | n + 1 => dIt N W p n ||| (gUn N (dIt N W p n) 8 &&& W)
theorem dIt_lt {N : Nat → Nat} {W p : Nat} (hN : ∀ p, p < 8 → N p < 256) (hp : p < 8) : ∀ n, dIt N W p n < 256
  | 0 => Nat.pow_lt_pow_right (n := 8) (by omega) hp
  | n + 1 => Nat.or_lt_two_pow (n := 8) (dIt_lt hN hp n) (Nat.lt_of_le_of_lt Nat.and_le_left (gUn_lt hN _ 8 (Nat.le_refl _)))
def gLn (m : zM) (g : Int) (L : Nat) (fr to' : Nat → Nat) : Prop := m g 3 = (L : Int) ∧ L ≤ 6 ∧ ∀ k : Nat, k < L → m (g + 2) k = ((fr k : Nat) : Int) ∧ m (g + 3) k = ((to' k : Nat) : Int) ∧ fr k < 8 ∧ to' k < 8
theorem zwith {S a b : Nat} (hS : S < 256) (ha : a < 8) (hb : b < 8) : zand (zand ((S / 2 ^ a : Nat) : Int) ((S / 2 ^ b : Nat) : Int)) 1 = zb (S.testBit a = true ∧ S.testBit b = true) := by
  have h1 : S / 2 ^ a < 256 := Nat.lt_of_le_of_lt (Nat.div_le_self _ _) hS
  have h2 : S / 2 ^ a &&& S / 2 ^ b < 256 := Nat.lt_of_le_of_lt Nat.and_le_left h1
  rw [zand_N (by omega), show (1 : Int) = ((1 : Nat) : Int) from rfl, zand_N (by omega)]
  have e : (S / 2 ^ a &&& S / 2 ^ b) &&& 1 = if S.testBit a = true ∧ S.testBit b = true then 1 else 0 := by
    refine zset_ext (fun i => ?_)
    rw [Nat.testBit_and, Nat.testBit_and, Nat.testBit_div_two_pow, Nat.testBit_div_two_pow]
    cases i with
    | zero => rw [Nat.zero_add, Nat.zero_add]; cases S.testBit a <;> cases S.testBit b <;> rfl
    | succ i =>
      have h1 : (1 : Nat).testBit (i + 1) = false := by rw [Nat.testBit_succ]; simp
      rw [h1, Bool.and_false]
      split
      · exact h1.symm
      · rw [Nat.zero_testBit]
  rw [e]
  unfold zb
  split <;> rfl
noncomputable def gCut (N : Nat → Nat) (W p : Nat) : Int := zb ((gRs N W (2 ^ p) ^^^ (gRs N W (2 ^ p) &&& 2 ^ p)) ≠ 0 ∧ gRs N (W ^^^ (W &&& 2 ^ p)) (lb (gRs N W (2 ^ p) ^^^ (gRs N W (2 ^ p) &&& 2 ^ p))) ≠ (gRs N W (2 ^ p) ^^^ (gRs N W (2 ^ p) &&& 2 ^ p)))
theorem gCut_01 (N : Nat → Nat) (W p : Nat) : gCut N W p = 0 ∨ gCut N W p = 1 := zb01 _
theorem l_partCount (d : Nat) {E : zE} {m : zM} {P : Option zV → zM → Prop} (g : Int) (g0 : 0 < g) (sG : shG E g) (pG : ptG m g) (N : Nat → Nat) (hN : ∀ p, p < 8 → N p < 256) (hn : ∀ p : Nat, p < 8 → m (g + 1) (p : Int) = ((N p : Nat) : Int)) (W : Nat) (hW : W < 256) (hpw : m g 4 = ((W : Nat) : Int)) : ∀ (j : Nat) (k n left : Nat), (k + j = 8) → (n ≤ k) → (left < 256) → (P (some (zI (n + cPs N W j left : Nat))) m) → zA zX1_partCount (d + 2) E E P 9 [zP g, zI (left : Nat), zI (n : Nat), zI (k : Nat)] [] m E := by
  intro j
  induction j with
  | zero =>
    intro k n left hk hnk hl hP
    refine z_iload_n dX1_partCount_9 rfl ?_
    refine z_bipush dX1_partCount_10 rfl (by decide) ?_
    refine z_icmp_ge (tgt := 45) dX1_partCount_12 rfl (fun h12 => ?_) (fun h => absurd (by omega) h)
    refine z_iload_n dX1_partCount_45 rfl ?_
    refine z_iret dX1_partCount_46 rfl rfl ?_
    rw [show n + cPs N W 0 left = n from rfl] at hP
    exact hP
  | succ j ih =>
    intro k n left hk hnk hl hP
    refine z_iload_n dX1_partCount_9 rfl ?_
    refine z_bipush dX1_partCount_10 rfl (by decide) ?_
    refine z_icmp_ge (tgt := 45) dX1_partCount_12 rfl (fun h => absurd h (by omega)) (fun h12 => ?_)
    refine z_iload_n dX1_partCount_15 rfl ?_
    refine z_if_eq (tgt := 45) dX1_partCount_16 rfl (fun h16 => ?_) (fun h16 => ?_)
    · refine z_iload_n dX1_partCount_45 rfl ?_
      refine z_iret dX1_partCount_46 rfl rfl ?_
      rw [show cPs N W (j + 1) left = 0 from if_pos (by omega), Nat.add_zero] at hP
      exact hP
    · refine z_iload_n dX1_partCount_19 rfl ?_
      refine z_aload_n dX1_partCount_20 rfl ?_
      refine z_iload_n dX1_partCount_21 rfl ?_
      refine z_iload_n dX1_partCount_22 rfl ?_
      refine z_neg dX1_partCount_23 (by omega) ?_
      have hlb := lb_lt left
      refine z_iand dX1_partCount_24 ?_
      rw [zlow left hl]
      refine z_aload_n dX1_partCount_25 rfl ?_
      refine z_gIv 4 rfl flX1_21 dX1_partCount_26 sG.1 rfl hpw ?_
      refine z_callV mlX1_45 dX1_partCount_29 sG.1 (av := [_, _]) rfl rfl (Nat.le_of_ble_eq_true rfl) (c_reach _ g g0 sG pG N hN hn (lb left) W hlb hW) (Nat.le_refl _) (Nat.le_refl _) (Nat.le_refl _) (Nat.le_refl _) ?_
      rintro _ _ ⟨rfl, rfl⟩
      have hrl := gRs_lt (N := N) (W := W) (A := lb left)
      refine z_iconst dX1_partCount_32 (by decide) ?_
      refine z_ixor dX1_partCount_33 ?_
      refine z_iand dX1_partCount_34 ?_
      rw [zandn_N (by omega) (by omega)]
      refine z_ist 1 dX1_partCount_35 rfl (Nat.le_of_ble_eq_true rfl) ?_
      refine z_inc dX1_partCount_36 rfl (by omega) ?_
      refine z_inc dX1_partCount_39 rfl (by omega) ?_
      refine z_goto (tgt := 9) dX1_partCount_42 rfl ?_
      try dsimp only [zs0, zsI, zsP, zsN, zsJ, zsS, zst2, Nat.reduceAdd]
      rw [show (k : Int) + 1 = ((k + 1 : Nat) : Int) by omega, show (n : Int) + 1 = ((n + 1 : Nat) : Int) by omega]
      refine ih (k + 1) (n + 1) _ (by omega) (by omega) (Nat.xor_lt_two_pow (n := 8) hl (Nat.lt_of_le_of_lt Nat.and_le_left hl)) ?_
      rw [show cPs N W (j + 1) left = 1 + cPs N W j (left ^^^ (left &&& gRs N W (lb left))) from if_neg (by omega), ← Nat.add_assoc] at hP
      exact hP

theorem c_partCount (d : Nat) {E : zE} {m : zM} (g : Int) (g0 : 0 < g) (sG : shG E g) (pG : ptG m g) (N : Nat → Nat) (hN : ∀ p, p < 8 → N p < 256) (hn : ∀ p : Nat, p < 8 → m (g + 1) (p : Int) = ((N p : Nat) : Int)) (W : Nat) (hW : W < 256) (hpw : m g 4 = ((W : Nat) : Int)) : zR zX1_partCount (d + 2) [zP g] m E E (fun r m' => r = some (zI (cPs N W 8 W : Nat)) ∧ m = m') := by
  refine zR_go [zP g, zN, zN, zN] (by decide +kernel) (Nat.le_of_ble_eq_true rfl) rfl rfl ?_
  refine z_aload_n dX1_partCount_0 rfl ?_
  refine z_gIv 4 rfl flX1_21 dX1_partCount_1 sG.1 rfl hpw ?_
  refine z_ist 1 dX1_partCount_4 rfl (Nat.le_of_ble_eq_true rfl) ?_
  refine z_iconst dX1_partCount_5 (by decide) ?_
  refine z_ist 2 dX1_partCount_6 rfl (Nat.le_of_ble_eq_true rfl) ?_
  refine z_iconst dX1_partCount_7 (by decide) ?_
  refine z_ist 3 dX1_partCount_8 rfl (Nat.le_of_ble_eq_true rfl) ?_
  try dsimp only [zs0, zsI, zsP, zsN, zsJ, zsS, zst2, Nat.reduceAdd]
  exact l_partCount d g g0 sG pG N hN hn W hW hpw 8 0 0 W (by omega) (by omega) hW ⟨by rw [Nat.zero_add], rfl⟩

theorem l_distance (d : Nat) {E : zE} {m : zM} {P : Option zV → zM → Prop} (g : Int) (g0 : 0 < g) (sG : shG E g) (pG : ptG m g) (N : Nat → Nat) (hN : ∀ p, p < 8 → N p < 256) (hn : ∀ p : Nat, p < 8 → m (g + 1) (p : Int) = ((N p : Nat) : Int)) (W : Nat) (hW : W < 256) (hpw : m g 4 = ((W : Nat) : Int)) (p q : Nat) (hp : p < 8) (hq : q < 8) : ∀ (j : Nat) (k : Nat), (k + j = 8) → (∀ i : Nat, i < k → (dIt N W p i).testBit q = false) → (P (some (zI (zfst (fun i => (dIt N W p i.toNat).testBit q) 8 0))) m) → zA zX1_distance (d + 1) E E P 7 [zP g, zI (p : Nat), zI (q : Nat), zI (dIt N W p k : Nat), zI (k : Nat)] [] m E := by
  intro j
  induction j with
  | zero =>
    intro k hk hno hP
    have hd := dIt_lt (W := W) hN hp k
    have hG := gUn_lt hN (dIt N W p k) 8 (Nat.le_refl _)
    have hGW : gUn N (dIt N W p k) 8 &&& W < 256 := Nat.lt_of_le_of_lt Nat.and_le_left hG
    refine z_iload dX1_distance_7 rfl ?_
    refine z_bipush dX1_distance_9 rfl (by decide) ?_
    refine z_icmp_ge (tgt := 44) dX1_distance_11 rfl (fun h11 => ?_) (fun h => absurd (by omega) h)
    refine z_iconst dX1_distance_44 (by decide) ?_
    refine z_iret dX1_distance_45 rfl rfl ?_
    rw [zfst_none (p := (fun i => (dIt N W p i.toNat).testBit q)) (fun i hi => by rw [Int.toNat_natCast]; exact hno i (by omega))] at hP
    exact hP
  | succ j ih =>
    intro k hk hno hP
    have hd := dIt_lt (W := W) hN hp k
    have hG := gUn_lt hN (dIt N W p k) 8 (Nat.le_refl _)
    have hGW : gUn N (dIt N W p k) 8 &&& W < 256 := Nat.lt_of_le_of_lt Nat.and_le_left hG
    refine z_iload dX1_distance_7 rfl ?_
    refine z_bipush dX1_distance_9 rfl (by decide) ?_
    refine z_icmp_ge (tgt := 44) dX1_distance_11 rfl (fun h => absurd h (by omega)) (fun h11 => ?_)
    refine z_iload_n dX1_distance_14 rfl ?_
    refine z_iload_n dX1_distance_15 rfl ?_
    refine z_ishr dX1_distance_16 ?_
    refine z_iconst dX1_distance_17 (by decide) ?_
    refine z_iand dX1_distance_18 ?_
    rw [zbit (by omega) (by omega)]
    refine z_if_eq (tgt := 25) dX1_distance_19 rfl (fun h19 => ?_) (fun h19 => ?_)
    · refine z_iload_n dX1_distance_25 rfl ?_
      refine z_aload_n dX1_distance_26 rfl ?_
      refine z_iload_n dX1_distance_27 rfl ?_
      refine z_callV mlX1_41 dX1_distance_28 sG.1 (av := [_]) rfl rfl (Nat.le_of_ble_eq_true rfl) (c_nextTo _ g g0 sG pG N hN hn (dIt N W p k) hd) (Nat.le_refl _) (Nat.le_refl _) (Nat.le_refl _) (Nat.le_refl _) ?_
      rintro _ _ ⟨rfl, rfl⟩
      refine z_aload_n dX1_distance_31 rfl ?_
      refine z_gIv 4 rfl flX1_21 dX1_distance_32 sG.1 rfl hpw ?_
      refine z_iand dX1_distance_35 ?_
      rw [zand_N (by omega)]
      refine z_ior dX1_distance_36 ?_
      rw [zor_N (by omega) (by omega)]
      refine z_ist 3 dX1_distance_37 rfl (Nat.le_of_ble_eq_true rfl) ?_
      refine z_inc dX1_distance_38 rfl (by omega) ?_
      refine z_goto (tgt := 7) dX1_distance_41 rfl ?_
      try dsimp only [zs0, zsI, zsP, zsN, zsJ, zsS, zst2, Nat.reduceAdd]
      rw [show (k : Int) + 1 = ((k + 1 : Nat) : Int) by omega]
      exact ih (k + 1) (by omega) (fun i hi => by
        by_cases e : i = k
        · rw [e]; have := zb_0.mp h19; simpa using this
        · exact hno i (by omega)) hP
    · refine z_iload dX1_distance_22 rfl ?_
      refine z_iret dX1_distance_24 rfl rfl ?_
      rw [zfst_at (p := (fun i => (dIt N W p i.toNat).testBit q)) (n := k) (fun i hi => by rw [Int.toNat_natCast]; exact hno i hi) (by rw [Int.toNat_natCast]; exact Classical.byContradiction (fun h => h19 (zb_f h))) (by omega)] at hP
      exact hP

theorem c_distance (d : Nat) {E : zE} {m : zM} (g : Int) (g0 : 0 < g) (sG : shG E g) (pG : ptG m g) (N : Nat → Nat) (hN : ∀ p, p < 8 → N p < 256) (hn : ∀ p : Nat, p < 8 → m (g + 1) (p : Int) = ((N p : Nat) : Int)) (W : Nat) (hW : W < 256) (hpw : m g 4 = ((W : Nat) : Int)) (p q : Nat) (hp : p < 8) (hq : q < 8) : zR zX1_distance (d + 1) [zP g, zI (p : Nat), zI (q : Nat)] m E E (fun r m' => r = some (zI (zfst (fun i => (dIt N W p i.toNat).testBit q) 8 0)) ∧ m = m') := by
  refine zR_go [zP g, zI (p : Nat), zI (q : Nat), zN, zN] (by decide +kernel) (Nat.le_of_ble_eq_true rfl) rfl rfl ?_
  refine z_iconst dX1_distance_0 (by decide) ?_
  refine z_iload_n dX1_distance_1 rfl ?_
  refine z_ishl dX1_distance_2 ?_
  rw [zshl_1 (by omega)]
  refine z_ist 3 dX1_distance_3 rfl (Nat.le_of_ble_eq_true rfl) ?_
  refine z_iconst dX1_distance_4 (by decide) ?_
  refine z_istore dX1_distance_5 (Nat.le_of_ble_eq_true rfl) ?_
  try dsimp only [zs0, zsI, zsP, zsN, zsJ, zsS, zst2, Nat.reduceAdd]
  exact l_distance d g g0 sG pG N hN hn W hW hpw p q hp hq 8 0 (by omega) (fun i hi => absurd hi (by omega)) ⟨rfl, rfl⟩

theorem l_rings1 (d : Nat) {E : zE} {m : zM} {P : Option zV → zM → Prop} (g : Int) (g0 : 0 < g) (sG : shG E g) (pG : ptG m g) (L : Nat) (fr to' : Nat → Nat) (hL : gLn m g L fr to') : ∀ (j : Nat) (k : Nat) (n : Int), (k + j = L) → (0 ≤ n ∧ n ≤ k) → (P (some (zI (n + zsum (fun k => zb (fr k.toNat = to' k.toNat)) j (k : Int)))) m) → zA zX1_rings (d) E E P 4 [zP g, zI n, zI (k : Nat)] [] m E := by
  intro j
  induction j with
  | zero =>
    intro k n hk hn hP
    have hLc := hL.1
    have hL6 := hL.2.1
    refine z_iload_n dX1_rings_4 rfl ?_
    refine z_aload_n dX1_rings_5 rfl ?_
    refine z_gIv 3 rfl flX1_25 dX1_rings_6 sG.1 rfl hL.1 ?_
    refine z_icmp_ge (tgt := 41) dX1_rings_9 rfl (fun h9 => ?_) (fun h => absurd (by omega) h)
    refine z_iload_n dX1_rings_41 rfl ?_
    refine z_iret dX1_rings_42 rfl rfl ?_
    rw [zsum_0, Int.add_zero] at hP
    exact hP
  | succ j ih =>
    intro k n hk hn hP
    have hLc := hL.1
    have hL6 := hL.2.1
    obtain ⟨q1, q2, q3, q4⟩ := hL.2.2 k (by omega)
    refine z_iload_n dX1_rings_4 rfl ?_
    refine z_aload_n dX1_rings_5 rfl ?_
    refine z_gIv 3 rfl flX1_25 dX1_rings_6 sG.1 rfl hL.1 ?_
    refine z_icmp_ge (tgt := 41) dX1_rings_9 rfl (fun h => absurd h (by omega)) (fun h9 => ?_)
    refine z_iload_n dX1_rings_12 rfl ?_
    refine z_aload_n dX1_rings_13 rfl ?_
    refine z_gP 1 rfl (r := (g + 2)) flX1_15 dX1_rings_14 sG.1 rfl pG.2.1 (by omega) ?_
    refine z_iload_n dX1_rings_17 rfl ?_
    refine z_ialv dX1_rings_18 sG.2.2.1 (by omega) (by omega) q1 ?_
    refine z_aload_n dX1_rings_19 rfl ?_
    refine z_gP 2 rfl (r := (g + 3)) flX1_18 dX1_rings_20 sG.1 rfl pG.2.2 (by omega) ?_
    refine z_iload_n dX1_rings_23 rfl ?_
    refine z_ialv dX1_rings_24 sG.2.2.2 (by omega) (by omega) q2 ?_
    refine z_icmp_ne (tgt := 32) dX1_rings_25 rfl (fun h25 => ?_) (fun h25 => ?_)
    · refine z_iconst dX1_rings_32 (by decide) ?_
      refine z_add dX1_rings_33 (by omega) ?_
      refine z_ist 1 dX1_rings_34 rfl (Nat.le_of_ble_eq_true rfl) ?_
      refine z_inc dX1_rings_35 rfl (by omega) ?_
      refine z_goto (tgt := 4) dX1_rings_38 rfl ?_
      try dsimp only [zs0, zsI, zsP, zsN, zsJ, zsS, zst2, Nat.reduceAdd]
      rw [zsum_s, ← Int.add_assoc, Int.toNat_natCast, zb_f (by omega), show (k : Int) + 1 = ((k + 1 : Nat) : Int) by omega] at hP
      rw [show (k : Int) + 1 = ((k + 1 : Nat) : Int) by omega]
      exact ih (k + 1) _ (by omega) (by omega) hP
    · refine z_iconst dX1_rings_28 (by decide) ?_
      refine z_goto (tgt := 33) dX1_rings_29 rfl ?_
      refine z_add dX1_rings_33 (by omega) ?_
      refine z_ist 1 dX1_rings_34 rfl (Nat.le_of_ble_eq_true rfl) ?_
      refine z_inc dX1_rings_35 rfl (by omega) ?_
      refine z_goto (tgt := 4) dX1_rings_38 rfl ?_
      try dsimp only [zs0, zsI, zsP, zsN, zsJ, zsS, zst2, Nat.reduceAdd]
      rw [zsum_s, ← Int.add_assoc, Int.toNat_natCast, zb_t (by omega), show (k : Int) + 1 = ((k + 1 : Nat) : Int) by omega] at hP
      rw [show (k : Int) + 1 = ((k + 1 : Nat) : Int) by omega]
      exact ih (k + 1) _ (by omega) (by omega) hP

theorem c_rings (d : Nat) {E : zE} {m : zM} (g : Int) (g0 : 0 < g) (sG : shG E g) (pG : ptG m g) (L : Nat) (fr to' : Nat → Nat) (hL : gLn m g L fr to') : zR zX1_rings (d) [zP g] m E E (fun r m' => r = some (zI (zsum (fun k => zb (fr k.toNat = to' k.toNat)) L 0)) ∧ m = m') := by
  refine zR_go [zP g, zN, zN] (by decide +kernel) (Nat.le_of_ble_eq_true rfl) rfl rfl ?_
  refine z_iconst dX1_rings_0 (by decide) ?_
  refine z_ist 1 dX1_rings_1 rfl (Nat.le_of_ble_eq_true rfl) ?_
  refine z_iconst dX1_rings_2 (by decide) ?_
  refine z_ist 2 dX1_rings_3 rfl (Nat.le_of_ble_eq_true rfl) ?_
  try dsimp only [zs0, zsI, zsP, zsN, zsJ, zsS, zst2, Nat.reduceAdd]
  exact l_rings1 d g g0 sG pG L fr to' hL L 0 0 (by omega) (by omega) ⟨by rw [Int.zero_add]; rfl, rfl⟩

theorem l_within (d : Nat) {E : zE} {m : zM} {P : Option zV → zM → Prop} (g : Int) (g0 : 0 < g) (sG : shG E g) (pG : ptG m g) (L : Nat) (fr to' : Nat → Nat) (hL : gLn m g L fr to') (S : Nat) (hS : S < 256) : ∀ (j : Nat) (k : Nat) (n : Int), (k + j = L) → (0 ≤ n ∧ n ≤ k) → (P (some (zI (n + zsum (fun k => zb (S.testBit (fr k.toNat) = true ∧ S.testBit (to' k.toNat) = true)) j (k : Int)))) m) → zA zX1_linesWithin (d) E E P 4 [zP g, zI (S : Nat), zI n, zI (k : Nat)] [] m E := by
  intro j
  induction j with
  | zero =>
    intro k n hk hn hP
    have hLc := hL.1
    have hL6 := hL.2.1
    refine z_iload_n dX1_linesWithin_4 rfl ?_
    refine z_aload_n dX1_linesWithin_5 rfl ?_
    refine z_gIv 3 rfl flX1_25 dX1_linesWithin_6 sG.1 rfl hL.1 ?_
    refine z_icmp_ge (tgt := 40) dX1_linesWithin_9 rfl (fun h9 => ?_) (fun h => absurd (by omega) h)
    refine z_iload_n dX1_linesWithin_40 rfl ?_
    refine z_iret dX1_linesWithin_41 rfl rfl ?_
    rw [zsum_0, Int.add_zero] at hP
    exact hP
  | succ j ih =>
    intro k n hk hn hP
    have hLc := hL.1
    have hL6 := hL.2.1
    obtain ⟨q1, q2, q3, q4⟩ := hL.2.2 k (by omega)
    refine z_iload_n dX1_linesWithin_4 rfl ?_
    refine z_aload_n dX1_linesWithin_5 rfl ?_
    refine z_gIv 3 rfl flX1_25 dX1_linesWithin_6 sG.1 rfl hL.1 ?_
    refine z_icmp_ge (tgt := 40) dX1_linesWithin_9 rfl (fun h => absurd h (by omega)) (fun h9 => ?_)
    refine z_iload_n dX1_linesWithin_12 rfl ?_
    refine z_iload_n dX1_linesWithin_13 rfl ?_
    refine z_aload_n dX1_linesWithin_14 rfl ?_
    refine z_gP 1 rfl (r := (g + 2)) flX1_15 dX1_linesWithin_15 sG.1 rfl pG.2.1 (by omega) ?_
    refine z_iload_n dX1_linesWithin_18 rfl ?_
    refine z_ialv dX1_linesWithin_19 sG.2.2.1 (by omega) (by omega) q1 ?_
    refine z_ishr dX1_linesWithin_20 ?_
    rw [zshr_N (by omega) (by omega)]
    refine z_iload_n dX1_linesWithin_21 rfl ?_
    refine z_aload_n dX1_linesWithin_22 rfl ?_
    refine z_gP 2 rfl (r := (g + 3)) flX1_18 dX1_linesWithin_23 sG.1 rfl pG.2.2 (by omega) ?_
    refine z_iload_n dX1_linesWithin_26 rfl ?_
    refine z_ialv dX1_linesWithin_27 sG.2.2.2 (by omega) (by omega) q2 ?_
    refine z_ishr dX1_linesWithin_28 ?_
    rw [zshr_N (by omega) (by omega)]
    refine z_iand dX1_linesWithin_29 ?_
    refine z_iconst dX1_linesWithin_30 (by decide) ?_
    refine z_iand dX1_linesWithin_31 ?_
    rw [zwith hS q3 q4]
    have hz := zb01 (S.testBit (fr k) = true ∧ S.testBit (to' k) = true)
    refine z_add dX1_linesWithin_32 (by omega) ?_
    refine z_ist 2 dX1_linesWithin_33 rfl (Nat.le_of_ble_eq_true rfl) ?_
    refine z_inc dX1_linesWithin_34 rfl (by omega) ?_
    refine z_goto (tgt := 4) dX1_linesWithin_37 rfl ?_
    try dsimp only [zs0, zsI, zsP, zsN, zsJ, zsS, zst2, Nat.reduceAdd]
    rw [zsum_s, ← Int.add_assoc, Int.toNat_natCast, show (k : Int) + 1 = ((k + 1 : Nat) : Int) by omega] at hP
    rw [show (k : Int) + 1 = ((k + 1 : Nat) : Int) by omega]
    exact ih (k + 1) _ (by omega) (by omega) hP

theorem c_within (d : Nat) {E : zE} {m : zM} (g : Int) (g0 : 0 < g) (sG : shG E g) (pG : ptG m g) (L : Nat) (fr to' : Nat → Nat) (hL : gLn m g L fr to') (S : Nat) (hS : S < 256) : zR zX1_linesWithin (d) [zP g, zI (S : Nat)] m E E (fun r m' => r = some (zI (zsum (fun k => zb (S.testBit (fr k.toNat) = true ∧ S.testBit (to' k.toNat) = true)) L 0)) ∧ m = m') := by
  refine zR_go [zP g, zI (S : Nat), zN, zN] (by decide +kernel) (Nat.le_of_ble_eq_true rfl) rfl rfl ?_
  refine z_iconst dX1_linesWithin_0 (by decide) ?_
  refine z_ist 2 dX1_linesWithin_1 rfl (Nat.le_of_ble_eq_true rfl) ?_
  refine z_iconst dX1_linesWithin_2 (by decide) ?_
  refine z_ist 3 dX1_linesWithin_3 rfl (Nat.le_of_ble_eq_true rfl) ?_
  try dsimp only [zs0, zsI, zsP, zsN, zsJ, zsS, zst2, Nat.reduceAdd]
  exact l_within d g g0 sG pG L fr to' hL S hS L 0 0 (by omega) (by omega) ⟨by rw [Int.zero_add]; rfl, rfl⟩

theorem c_isCut (d : Nat) {E : zE} {m : zM} (g : Int) (g0 : 0 < g) (sG : shG E g) (pG : ptG m g) (N : Nat → Nat) (hN : ∀ p, p < 8 → N p < 256) (hn : ∀ p : Nat, p < 8 → m (g + 1) (p : Int) = ((N p : Nat) : Int)) (W : Nat) (hW : W < 256) (hpw : m g 4 = ((W : Nat) : Int)) (p : Nat) (hp : p < 8) : zR zX1_isCut (d + 2) [zP g, zI (p : Nat)] m E E (fun r m' => r = some (zI (gCut N W p)) ∧ m = m') := by
  have hpp : (2 : Nat) ^ p < 256 := Nat.pow_lt_pow_right (n := 8) (by omega) hp
  have hwo : (W ^^^ (W &&& 2 ^ p)) < 256 := Nat.xor_lt_two_pow (n := 8) hW (Nat.lt_of_le_of_lt Nat.and_le_left hW)
  refine zR_go [zP g, zI (p : Nat), zN, zN] (by decide +kernel) (Nat.le_of_ble_eq_true rfl) rfl rfl ?_
  refine z_aload_n dX1_isCut_0 rfl ?_
  refine z_iconst dX1_isCut_1 (by decide) ?_
  refine z_iload_n dX1_isCut_2 rfl ?_
  refine z_ishl dX1_isCut_3 ?_
  rw [zshl_1 (by omega)]
  refine z_aload_n dX1_isCut_4 rfl ?_
  refine z_gIv 4 rfl flX1_21 dX1_isCut_5 sG.1 rfl hpw ?_
  refine z_callV mlX1_45 dX1_isCut_8 sG.1 (av := [_, _]) rfl rfl (Nat.le_of_ble_eq_true rfl) (c_reach _ g g0 sG pG N hN hn (2 ^ p) W hpp hW) (Nat.le_refl _) (Nat.le_refl _) (Nat.le_refl _) (Nat.le_refl _) ?_
  rintro _ _ ⟨rfl, rfl⟩
  have hr1 := gRs_lt (N := N) (W := W) (A := 2 ^ p)
  have hol : (gRs N W (2 ^ p) ^^^ (gRs N W (2 ^ p) &&& 2 ^ p)) < 256 := Nat.xor_lt_two_pow (n := 8) hr1 (Nat.lt_of_le_of_lt Nat.and_le_left hr1)
  refine z_iconst dX1_isCut_11 (by decide) ?_
  refine z_iload_n dX1_isCut_12 rfl ?_
  refine z_ishl dX1_isCut_13 ?_
  rw [zshl_1 (by omega)]
  refine z_iconst dX1_isCut_14 (by decide) ?_
  refine z_ixor dX1_isCut_15 ?_
  refine z_iand dX1_isCut_16 ?_
  rw [zandn_N (by omega) (by omega)]
  refine z_ist 2 dX1_isCut_17 rfl (Nat.le_of_ble_eq_true rfl) ?_
  refine z_iload_n dX1_isCut_18 rfl ?_
  try dsimp only [zs0, zsI, zsP, zsN, zsJ, zsS, zst2, Nat.reduceAdd]
  refine z_if_ne (tgt := 24) dX1_isCut_19 rfl (fun h19 => ?_) (fun h19 => ?_)
  · refine z_aload_n dX1_isCut_24 rfl ?_
    refine z_iload_n dX1_isCut_25 rfl ?_
    refine z_iload_n dX1_isCut_26 rfl ?_
    refine z_neg dX1_isCut_27 (by omega) ?_
    refine z_iand dX1_isCut_28 ?_
    rw [zlow _ hol]
    refine z_aload_n dX1_isCut_29 rfl ?_
    refine z_gIv 4 rfl flX1_21 dX1_isCut_30 sG.1 rfl hpw ?_
    refine z_iconst dX1_isCut_33 (by decide) ?_
    refine z_iload_n dX1_isCut_34 rfl ?_
    refine z_ishl dX1_isCut_35 ?_
    rw [zshl_1 (by omega)]
    refine z_iconst dX1_isCut_36 (by decide) ?_
    refine z_ixor dX1_isCut_37 ?_
    refine z_iand dX1_isCut_38 ?_
    rw [zandn_N (by omega) (by omega)]
    refine z_callV mlX1_45 dX1_isCut_39 sG.1 (av := [_, _]) rfl rfl (Nat.le_of_ble_eq_true rfl) (c_reach _ g g0 sG pG N hN hn (lb (gRs N W (2 ^ p) ^^^ (gRs N W (2 ^ p) &&& 2 ^ p))) (W ^^^ (W &&& 2 ^ p)) (lb_lt _) hwo) (Nat.le_refl _) (Nat.le_refl _) (Nat.le_refl _) (Nat.le_refl _) ?_
    rintro _ _ ⟨rfl, rfl⟩
    refine z_ist 3 dX1_isCut_42 rfl (Nat.le_of_ble_eq_true rfl) ?_
    refine z_iload_n dX1_isCut_43 rfl ?_
    refine z_iload_n dX1_isCut_44 rfl ?_
    try dsimp only [zs0, zsI, zsP, zsN, zsJ, zsS, zst2, Nat.reduceAdd]
    refine z_icmp_eq (tgt := 52) dX1_isCut_45 rfl (fun h45 => ?_) (fun h45 => ?_)
    · refine z_iconst dX1_isCut_52 (by decide) ?_
      refine z_zret dX1_isCut_53 rfl (by first | omega | exact zb01 _) rfl ?_
      refine ⟨?_, rfl⟩
      unfold gCut
      rw [zb_f (fun h => h.2 (by omega))]
    · refine z_iconst dX1_isCut_48 (by decide) ?_
      refine z_goto (tgt := 53) dX1_isCut_49 rfl ?_
      refine z_zret dX1_isCut_53 rfl (by first | omega | exact zb01 _) rfl ?_
      refine ⟨?_, rfl⟩
      unfold gCut
      rw [zb_t ⟨by omega, by omega⟩]
  · refine z_iconst dX1_isCut_22 (by decide) ?_
    refine z_zret dX1_isCut_23 rfl (by first | omega | exact zb01 _) rfl ?_
    refine ⟨?_, rfl⟩
    unfold gCut
    rw [zb_f (fun h => h.1 (by omega))]

theorem l_cutPoints (d : Nat) {E : zE} {m : zM} {P : Option zV → zM → Prop} (g : Int) (g0 : 0 < g) (sG : shG E g) (pG : ptG m g) (N : Nat → Nat) (hN : ∀ p, p < 8 → N p < 256) (hn : ∀ p : Nat, p < 8 → m (g + 1) (p : Int) = ((N p : Nat) : Int)) (W : Nat) (hW : W < 256) (hpw : m g 4 = ((W : Nat) : Int)) : ∀ (j : Nat) (p : Nat), (p + j = 8) → (P (some (zI (zmask (fun p => W.testBit p && decide (gCut N W p = 1)) 8 : Nat))) m) → zA zX1_cutPoints (d + 3) E E P 4 [zP g, zI (zmask (fun p => W.testBit p && decide (gCut N W p = 1)) p : Nat), zI (p : Nat)] [] m E := by
  intro j
  induction j with
  | zero =>
    intro p hp hP
    have hml := zmask_lt (fun p => W.testBit p && decide (gCut N W p = 1)) p
    have hm2 : (2 : Nat) ^ p ≤ 2 ^ 8 := Nat.pow_le_pow_right (by omega) (by omega)
    refine z_iload_n dX1_cutPoints_4 rfl ?_
    refine z_bipush dX1_cutPoints_5 rfl (by decide) ?_
    refine z_icmp_ge (tgt := 41) dX1_cutPoints_7 rfl (fun h7 => ?_) (fun h => absurd (by omega) h)
    refine z_iload_n dX1_cutPoints_41 rfl ?_
    refine z_iret dX1_cutPoints_42 rfl rfl ?_
    rw [show (8 : Nat) = p by omega] at hP
    exact hP
  | succ j ih =>
    intro p hp hP
    have hml := zmask_lt (fun p => W.testBit p && decide (gCut N W p = 1)) p
    have hm2 : (2 : Nat) ^ p ≤ 2 ^ 8 := Nat.pow_le_pow_right (by omega) (by omega)
    refine z_iload_n dX1_cutPoints_4 rfl ?_
    refine z_bipush dX1_cutPoints_5 rfl (by decide) ?_
    refine z_icmp_ge (tgt := 41) dX1_cutPoints_7 rfl (fun h => absurd h (by omega)) (fun h7 => ?_)
    refine z_aload_n dX1_cutPoints_10 rfl ?_
    refine z_gIv 4 rfl flX1_21 dX1_cutPoints_11 sG.1 rfl hpw ?_
    refine z_iload_n dX1_cutPoints_14 rfl ?_
    refine z_ishr dX1_cutPoints_15 ?_
    refine z_iconst dX1_cutPoints_16 (by decide) ?_
    refine z_iand dX1_cutPoints_17 ?_
    rw [zbit (by omega) (by omega)]
    refine z_if_eq (tgt := 35) dX1_cutPoints_18 rfl (fun h18 => ?_) (fun h18 => ?_)
    · refine z_inc dX1_cutPoints_35 rfl (by omega) ?_
      refine z_goto (tgt := 4) dX1_cutPoints_38 rfl ?_
      try dsimp only [zs0, zsI, zsP, zsN, zsJ, zsS, zst2, Nat.reduceAdd]
      rw [show (p : Int) + 1 = ((p + 1 : Nat) : Int) by omega, ← zmask_n (show (fun p => W.testBit p && decide (gCut N W p = 1)) p = false by rw [Bool.and_eq_false_iff]; left; have := zb_0.mp h18; simpa using this)]
      exact ih (p + 1) (by omega) hP
    · refine z_aload_n dX1_cutPoints_21 rfl ?_
      refine z_iload_n dX1_cutPoints_22 rfl ?_
      refine z_callV mlX1_53 dX1_cutPoints_23 sG.1 (av := [_]) rfl rfl (Nat.le_of_ble_eq_true rfl) (c_isCut _ g g0 sG pG N hN hn W hW hpw p (by omega)) (Nat.le_refl _) (Nat.le_refl _) (Nat.le_refl _) (Nat.le_refl _) ?_
      rintro _ _ ⟨rfl, rfl⟩
      refine z_if_eq (tgt := 35) dX1_cutPoints_26 rfl (fun h26 => ?_) (fun h26 => ?_)
      · refine z_inc dX1_cutPoints_35 rfl (by omega) ?_
        refine z_goto (tgt := 4) dX1_cutPoints_38 rfl ?_
        try dsimp only [zs0, zsI, zsP, zsN, zsJ, zsS, zst2, Nat.reduceAdd]
        rw [show (p : Int) + 1 = ((p + 1 : Nat) : Int) by omega, ← zmask_n (show (fun p => W.testBit p && decide (gCut N W p = 1)) p = false by rw [Bool.and_eq_false_iff, decide_eq_false_iff_not]; right; omega)]
        exact ih (p + 1) (by omega) hP
      · refine z_iload_n dX1_cutPoints_29 rfl ?_
        refine z_iconst dX1_cutPoints_30 (by decide) ?_
        refine z_iload_n dX1_cutPoints_31 rfl ?_
        refine z_ishl dX1_cutPoints_32 ?_
        refine z_ior dX1_cutPoints_33 ?_
        rw [zor_b (by omega) (by omega)]
        refine z_ist 1 dX1_cutPoints_34 rfl (Nat.le_of_ble_eq_true rfl) ?_
        refine z_inc dX1_cutPoints_35 rfl (by omega) ?_
        refine z_goto (tgt := 4) dX1_cutPoints_38 rfl ?_
        try dsimp only [zs0, zsI, zsP, zsN, zsJ, zsS, zst2, Nat.reduceAdd]
        rw [show (p : Int) + 1 = ((p + 1 : Nat) : Int) by omega, ← zmask_s (show (fun p => W.testBit p && decide (gCut N W p = 1)) p = true by rw [Bool.and_eq_true, decide_eq_true_eq]; exact ⟨Classical.byContradiction (fun h => h18 (zb_f h)), by have := gCut_01 N W p; omega⟩)]
        exact ih (p + 1) (by omega) hP

theorem c_cutPoints (d : Nat) {E : zE} {m : zM} (g : Int) (g0 : 0 < g) (sG : shG E g) (pG : ptG m g) (N : Nat → Nat) (hN : ∀ p, p < 8 → N p < 256) (hn : ∀ p : Nat, p < 8 → m (g + 1) (p : Int) = ((N p : Nat) : Int)) (W : Nat) (hW : W < 256) (hpw : m g 4 = ((W : Nat) : Int)) : zR zX1_cutPoints (d + 3) [zP g] m E E (fun r m' => r = some (zI (zmask (fun p => W.testBit p && decide (gCut N W p = 1)) 8 : Nat)) ∧ m = m') := by
  refine zR_go [zP g, zN, zN] (by decide +kernel) (Nat.le_of_ble_eq_true rfl) rfl rfl ?_
  refine z_iconst dX1_cutPoints_0 (by decide) ?_
  refine z_ist 1 dX1_cutPoints_1 rfl (Nat.le_of_ble_eq_true rfl) ?_
  refine z_iconst dX1_cutPoints_2 (by decide) ?_
  refine z_ist 2 dX1_cutPoints_3 rfl (Nat.le_of_ble_eq_true rfl) ?_
  try dsimp only [zs0, zsI, zsP, zsN, zsJ, zsS, zst2, Nat.reduceAdd]
  exact l_cutPoints d g g0 sG pG N hN hn W hW hpw 8 0 (by omega) ⟨rfl, rfl⟩
