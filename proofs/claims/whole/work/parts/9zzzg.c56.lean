/-! the cells that the constructors make, one after the other -/
def zsA : List (Nat × Int) := [(17, 12), (15, 10), (1, 400), (14, 0), (9, 4), (1, 6), (16, 3), (1, 4096), (10, 7), (2, 16), (1, 16), (10, 7), (2, 16), (1, 16), (6, 20), (8, 3), (2, 32), (1, 32), (7, 5), (1, 8), (1, 6), (1, 6), (1, 120), (1, 6), (1, 6), (2, 16), (1, 16), (1, 16), (1, 16), (1, 16), (1, 16), (1, 16), (1, 16), (7, 5), (1, 8), (1, 6), (1, 6), (12, 2), (1, 48), (13, 16), (1, 6), (4, 6), (4, 6), (1, 4), (1, 4), (5, 8), (1, 12), (1, 12), (1, 12), (1, 144), (1, 800), (11, 4), (1, 6), (11, 4), (1, 6), (11, 4), (1, 6), (11, 4), (1, 6), (11, 4), (1, 6), (11, 4), (1, 6), (11, 4), (1, 6), (11, 4), (1, 6), (13, 16), (1, 6), (4, 6), (4, 6), (1, 4), (1, 4), (5, 8), (1, 12), (1, 12), (1, 12), (1, 144), (1, 800), (11, 4), (1, 6), (11, 4), (1, 6), (11, 4), (1, 6), (11, 4), (1, 6), (11, 4), (1, 6), (11, 4), (1, 6), (11, 4), (1, 6), (11, 4), (1, 6), (18, 54), (1, 104), (1, 104), (1, 800), (1, 12), (1, 12), (1, 124740), (1, 10395), (1, 10395), (1, 10395), (1, 10395), (1, 12), (1, 6), (1, 6), (1, 8), (2, 10395), (2, 10395), (2, 10395), (2, 10395), (1, 9), (1, 4), (1, 100), (3, 400), (2, 8), (1, 12), (1, 6)]
def eSl (k : Nat) : Nat := ((zsA.take k).map (fun q => q.2.toNat)).sum
def eC (k : Nat) : zE := (fun a => if 0 ≤ a ∧ a < (k : Int) then zsA.getD a.toNat (0, 0) else (0, 0), k, eSl k)
theorem eC_s {k kd : Nat} {n : Int} (h : zsA[k]? = some (kd, n)) : znew (eC k) kd n n.toNat = eC (k + 1) := by
  have e3 : eSl k + n.toNat = eSl (k + 1) := by
    unfold eSl
    rw [List.take_succ, h, List.map_append, List.sum_append]
    simp
  have e1 : (znew (eC k) kd n n.toNat).1 = (eC (k + 1)).1 := by
    funext a
    show (if a = (k : Int) then (kd, n) else if 0 ≤ a ∧ a < (k : Int) then zsA.getD a.toNat (0, 0) else (0, 0)) = (if 0 ≤ a ∧ a < ((k + 1 : Nat) : Int) then zsA.getD a.toNat (0, 0) else (0, 0))
    by_cases z : a = (k : Int)
    · rw [if_pos z, if_pos (by omega), z, Int.toNat_natCast, List.getD_eq_getElem?_getD, h]
      rfl
    · rw [if_neg z]
      by_cases y : 0 ≤ a ∧ a < (k : Int)
      · rw [if_pos y, if_pos (by omega)]
      · rw [if_neg y, if_neg (by omega)]
  exact Prod.ext e1 (Prod.ext rfl e3)
section ZMK
variable {y : zY} {d : Nat} {E0 E' : zE} {P : Option zV → zM → Prop} {pc : Nat} {L S : List zV} {m : zM}
theorem z_mki {k : Nat} {n : Int} (hd : decode y.2.1 pc = .ok (.newarray .int, 2)) (hw : Cond.arrayClass .int ∈ zgood) (hs : zsA[k]? = some (1, n)) (h0 : 0 ≤ n) (hn : n ≤ 67108864) (hc : k + 1 ≤ E'.2.1) (hsl : eSl (k + 1) ≤ E'.2.2) (kk : zA y d E0 E' P (pc + 2) L (zP (k : Int) :: S) (zfill m (k : Int) fun _ => 0) (eC (k + 1))) : zA y d E0 E' P pc L (zI n :: S) m (eC k) := by
  have e := eC_s hs
  have e2 : eSl k + n.toNat = eSl (k + 1) := congrArg (fun q => q.2.2) e
  exact z_newi hd hw h0 hn hc (by show eSl k + n.toNat ≤ _; omega) (by rw [e]; exact kk)
theorem z_mkl {k : Nat} {n : Int} (hd : decode y.2.1 pc = .ok (.newarray .long, 2)) (hw : Cond.arrayClass .long ∈ zgood) (hs : zsA[k]? = some (2, n)) (h0 : 0 ≤ n) (hn : n ≤ 67108864) (hc : k + 1 ≤ E'.2.1) (hsl : eSl (k + 1) ≤ E'.2.2) (kk : zA y d E0 E' P (pc + 2) L (zP (k : Int) :: S) (zfill m (k : Int) fun _ => 0) (eC (k + 1))) : zA y d E0 E' P pc L (zI n :: S) m (eC k) := by
  have e := eC_s hs
  have e2 : eSl k + n.toNat = eSl (k + 1) := congrArg (fun q => q.2.2) e
  exact z_newl hd hw h0 hn hc (by show eSl k + n.toNat ≤ _; omega) (by rw [e]; exact kk)
theorem z_mkb {k : Nat} {n : Int} (hd : decode y.2.1 pc = .ok (.newarray .byte, 2)) (hw : Cond.arrayClass .byte ∈ zgood) (hs : zsA[k]? = some (3, n)) (h0 : 0 ≤ n) (hn : n ≤ 67108864) (hc : k + 1 ≤ E'.2.1) (hsl : eSl (k + 1) ≤ E'.2.2) (kk : zA y d E0 E' P (pc + 2) L (zP (k : Int) :: S) (zfill m (k : Int) fun _ => 0) (eC (k + 1))) : zA y d E0 E' P pc L (zI n :: S) m (eC k) := by
  have e := eC_s hs
  have e2 : eSl k + n.toNat = eSl (k + 1) := congrArg (fun q => q.2.2) e
  exact z_newb hd hw h0 hn hc (by show eSl k + n.toNat ≤ _; omega) (by rw [e]; exact kk)
theorem z_mkz {k : Nat} {n : Int} (hd : decode y.2.1 pc = .ok (.newarray .boolean, 2)) (hw : Cond.arrayClass .boolean ∈ zgood) (hs : zsA[k]? = some (4, n)) (h0 : 0 ≤ n) (hn : n ≤ 67108864) (hc : k + 1 ≤ E'.2.1) (hsl : eSl (k + 1) ≤ E'.2.2) (kk : zA y d E0 E' P (pc + 2) L (zP (k : Int) :: S) (zfill m (k : Int) fun _ => 0) (eC (k + 1))) : zA y d E0 E' P pc L (zI n :: S) m (eC k) := by
  have e := eC_s hs
  have e2 : eSl k + n.toNat = eSl (k + 1) := congrArg (fun q => q.2.2) e
  exact z_newz hd hw h0 hn hc (by show eSl k + n.toNat ≤ _; omega) (by rw [e]; exact kk)
theorem z_mka {k : Nat} {n : Int} {idx : Nat} (hd : decode y.2.1 pc = .ok (.anewarray idx, 3)) (hw : Cond.classLink y.1.cls idx RX5 ∈ zgood) (hs : zsA[k]? = some (5, n)) (h0 : 0 ≤ n) (hn : n ≤ 67108864) (hc : k + 1 ≤ E'.2.1) (hsl : eSl (k + 1) ≤ E'.2.2) (kk : zA y d E0 E' P (pc + 3) L (zP (k : Int) :: S) (zfill m (k : Int) fun _ => -1) (eC (k + 1))) : zA y d E0 E' P pc L (zI n :: S) m (eC k) := by
  have e := eC_s hs
  have e2 : eSl k + n.toNat = eSl (k + 1) := congrArg (fun q => q.2.2) e
  exact z_anew hd hw h0 hn hc (by show eSl k + n.toNat ≤ _; omega) (by rw [e]; exact kk)
theorem z_mko {k idx ci N : Nat} (hw : zNw y.1.cls idx ci N) (hd : decode y.2.1 pc = .ok (.new idx, 3)) (hs : zsA[k]? = some (ci + 6, (N : Int))) (hN : N < 100) (hc : k + 1 ≤ E'.2.1) (hsl : eSl (k + 1) ≤ E'.2.2) (kk : zA y d E0 E' P (pc + 3) L (zP (k : Int) :: S) (zfill m (k : Int) (zblank ci)) (eC (k + 1))) : zA y d E0 E' P pc L S m (eC k) := by
  have e := eC_s hs
  rw [Int.toNat_natCast] at e
  have e2 : eSl k + N = eSl (k + 1) := congrArg (fun q => q.2.2) e
  exact z_new hw hd hc (by show eSl k + N ≤ _; omega) hN (by rw [e]; exact kk)
end ZMK
theorem sC121 : shM (eC 121) := by
  have h : ∀ q ∈ mSh, (eC 121).1 q.1 = q.2 := by decide +kernel
  exact h
def w_X9_1 (m : zM) : zM := (zu (zu (zu (zfill m 2 (fun _ => 0)) 1 0 (2)) 1 8 (-1)) 1 9 (-1))
theorem i_X9_1 (d : Nat) (m : zM) : zR zX9_init (d + 1) [zP 1] m (eC 2) (eC 3) (fun r m' => r = none ∧ m' = w_X9_1 m) := by
  refine zR_go [zP 1] (by decide +kernel) (Nat.le_of_ble_eq_true rfl) rfl rfl ?_
  refine z_aload_n dX9_init_0 rfl ?_
  refine z_objInit dX9_init_1 oiX9 oi_inst oi_code rfl ?_
  refine z_aload_n dX9_init_4 rfl ?_
  refine z_sipush dX9_init_5 rfl (by decide) ?_
  refine z_mki (k := 2) dX9_init_8 ac_int rfl (by decide) (by decide) (Nat.le_of_ble_eq_true rfl) (Nat.le_of_ble_eq_true rfl) ?_
  refine z_pP (n := 10) 0 rfl fpX9_9 dX9_init_10 (by decide) rfl (by decide) ?_
  refine z_aload_n dX9_init_13 rfl ?_
  refine z_iconst dX9_init_14 (by decide) ?_
  refine z_pI (n := 10) 8 rfl (fpX9_15 _) dX9_init_15 (by decide) rfl ?_
  refine z_aload_n dX9_init_18 rfl ?_
  refine z_iconst dX9_init_19 (by decide) ?_
  refine z_pI (n := 10) 9 rfl (fpX9_19 _) dX9_init_20 (by decide) rfl ?_
  refine z_vret dX9_init_23 rfl rfl ?_
  exact ⟨rfl, rfl⟩
def w_X8_3 (m : zM) : zM := m
theorem i_X8_3 (d : Nat) (m : zM) : zR zX8_init (d + 1) [zP 3] m (eC 4) (eC 4) (fun r m' => r = none ∧ m' = w_X8_3 m) := by
  refine zR_go [zP 3] (by decide +kernel) (Nat.le_of_ble_eq_true rfl) rfl rfl ?_
  refine z_aload_n dX8_init_0 rfl ?_
  refine z_objInit dX8_init_1 oiX8 oi_inst oi_code rfl ?_
  refine z_vret dX8_init_4 rfl rfl ?_
  exact ⟨rfl, rfl⟩
def w_X3_4 (m : zM) : zM := (zu (zfill m 5 (fun _ => 0)) 4 0 (5))
theorem i_X3_4 (d : Nat) (m : zM) : zR zX3_init (d + 1) [zP 4] m (eC 5) (eC 6) (fun r m' => r = none ∧ m' = w_X3_4 m) := by
  refine zR_go [zP 4] (by decide +kernel) (Nat.le_of_ble_eq_true rfl) rfl rfl ?_
  refine z_aload_n dX3_init_0 rfl ?_
  refine z_objInit dX3_init_1 oiX3 oi_inst oi_code rfl ?_
  refine z_aload_n dX3_init_4 rfl ?_
  refine z_bipush dX3_init_5 rfl (by decide) ?_
  refine z_mki (k := 5) dX3_init_7 ac_int rfl (by decide) (by decide) (Nat.le_of_ble_eq_true rfl) (Nat.le_of_ble_eq_true rfl) ?_
  refine z_pP (n := 4) 0 rfl fpX3_9 dX3_init_9 (by decide) rfl (by decide) ?_
  refine z_vret dX3_init_12 rfl rfl ?_
  exact ⟨rfl, rfl⟩
def w_X10_6 (m : zM) : zM := (zu (zfill m 7 (fun _ => 0)) 6 0 (7))
theorem i_X10_6 (d : Nat) (m : zM) : zR zX10_init (d + 1) [zP 6] m (eC 7) (eC 8) (fun r m' => r = none ∧ m' = w_X10_6 m) := by
  refine zR_go [zP 6] (by decide +kernel) (Nat.le_of_ble_eq_true rfl) rfl rfl ?_
  refine z_aload_n dX10_init_0 rfl ?_
  refine z_objInit dX10_init_1 oiX10 oi_inst oi_code rfl ?_
  refine z_aload_n dX10_init_4 rfl ?_
  refine z_sipush dX10_init_5 rfl (by decide) ?_
  refine z_mki (k := 7) dX10_init_8 ac_int rfl (by decide) (by decide) (Nat.le_of_ble_eq_true rfl) (Nat.le_of_ble_eq_true rfl) ?_
  refine z_pP (n := 3) 0 rfl fpX10_9 dX10_init_10 (by decide) rfl (by decide) ?_
  refine z_vret dX10_init_13 rfl rfl ?_
  exact ⟨rfl, rfl⟩
def w_X4_8 (m : zM) : zM := (zu (zfill (zu (zfill m 9 (fun _ => 0)) 8 0 (9)) 10 (fun _ => 0)) 8 1 (10))
theorem i_X4_8 (d : Nat) (m : zM) : zR zX4_init (d + 1) [zP 8] m (eC 9) (eC 11) (fun r m' => r = none ∧ m' = w_X4_8 m) := by
  refine zR_go [zP 8] (by decide +kernel) (Nat.le_of_ble_eq_true rfl) rfl rfl ?_
  refine z_aload_n dX4_init_0 rfl ?_
  refine z_objInit dX4_init_1 oiX4 oi_inst oi_code rfl ?_
  refine z_aload_n dX4_init_4 rfl ?_
  refine z_bipush dX4_init_5 rfl (by decide) ?_
  refine z_mkl (k := 9) dX4_init_7 ac_long rfl (by decide) (by decide) (Nat.le_of_ble_eq_true rfl) (Nat.le_of_ble_eq_true rfl) ?_
  refine z_pP (n := 7) 0 rfl (fpX4_9 _) dX4_init_9 (by decide) rfl (by decide) ?_
  refine z_aload_n dX4_init_12 rfl ?_
  refine z_bipush dX4_init_13 rfl (by decide) ?_
  refine z_mki (k := 10) dX4_init_15 ac_int rfl (by decide) (by decide) (Nat.le_of_ble_eq_true rfl) (Nat.le_of_ble_eq_true rfl) ?_
  refine z_pP (n := 7) 1 rfl (fpX4_15 _) dX4_init_17 (by decide) rfl (by decide) ?_
  refine z_vret dX4_init_20 rfl rfl ?_
  exact ⟨rfl, rfl⟩
def w_X4_11 (m : zM) : zM := (zu (zfill (zu (zfill m 12 (fun _ => 0)) 11 0 (12)) 13 (fun _ => 0)) 11 1 (13))
theorem i_X4_11 (d : Nat) (m : zM) : zR zX4_init (d + 1) [zP 11] m (eC 12) (eC 14) (fun r m' => r = none ∧ m' = w_X4_11 m) := by
  refine zR_go [zP 11] (by decide +kernel) (Nat.le_of_ble_eq_true rfl) rfl rfl ?_
  refine z_aload_n dX4_init_0 rfl ?_
  refine z_objInit dX4_init_1 oiX4 oi_inst oi_code rfl ?_
  refine z_aload_n dX4_init_4 rfl ?_
  refine z_bipush dX4_init_5 rfl (by decide) ?_
  refine z_mkl (k := 12) dX4_init_7 ac_long rfl (by decide) (by decide) (Nat.le_of_ble_eq_true rfl) (Nat.le_of_ble_eq_true rfl) ?_
  refine z_pP (n := 7) 0 rfl (fpX4_9 _) dX4_init_9 (by decide) rfl (by decide) ?_
  refine z_aload_n dX4_init_12 rfl ?_
  refine z_bipush dX4_init_13 rfl (by decide) ?_
  refine z_mki (k := 13) dX4_init_15 ac_int rfl (by decide) (by decide) (Nat.le_of_ble_eq_true rfl) (Nat.le_of_ble_eq_true rfl) ?_
  refine z_pP (n := 7) 1 rfl (fpX4_15 _) dX4_init_17 (by decide) rfl (by decide) ?_
  refine z_vret dX4_init_20 rfl rfl ?_
  exact ⟨rfl, rfl⟩
def w_X2_15 (m : zM) : zM := (zu (zu (zfill (zu (zfill m 16 (fun _ => 0)) 15 0 (16)) 17 (fun _ => 0)) 15 1 (17)) 15 2 (32))
theorem i_X2_15 (d : Nat) (m : zM) : zR zX2_init (d + 1) [zP 15] m (eC 16) (eC 18) (fun r m' => r = none ∧ m' = w_X2_15 m) := by
  refine zR_go [zP 15] (by decide +kernel) (Nat.le_of_ble_eq_true rfl) rfl rfl ?_
  refine z_aload_n dX2_init_0 rfl ?_
  refine z_objInit dX2_init_1 oiX2 oi_inst oi_code rfl ?_
  refine z_aload_n dX2_init_4 rfl ?_
  refine z_bipush dX2_init_5 rfl (by decide) ?_
  refine z_mkl (k := 16) dX2_init_7 ac_long rfl (by decide) (by decide) (Nat.le_of_ble_eq_true rfl) (Nat.le_of_ble_eq_true rfl) ?_
  refine z_pP (n := 3) 0 rfl (fpX2_9 _) dX2_init_9 (by decide) rfl (by decide) ?_
  refine z_aload_n dX2_init_12 rfl ?_
  refine z_bipush dX2_init_13 rfl (by decide) ?_
  refine z_mki (k := 17) dX2_init_15 ac_int rfl (by decide) (by decide) (Nat.le_of_ble_eq_true rfl) (Nat.le_of_ble_eq_true rfl) ?_
  refine z_pP (n := 3) 1 rfl (fpX2_15 _) dX2_init_17 (by decide) rfl (by decide) ?_
  refine z_aload_n dX2_init_20 rfl ?_
  refine z_bipush dX2_init_21 rfl (by decide) ?_
  refine z_pI (n := 3) 2 rfl (fpX2_19 _) dX2_init_23 (by decide) rfl ?_
  refine z_vret dX2_init_26 rfl rfl ?_
  exact ⟨rfl, rfl⟩
def w_X1_18 (m : zM) : zM := (zu (zfill (zu (zfill (zu (zfill m 19 (fun _ => 0)) 18 0 (19)) 20 (fun _ => 0)) 18 1 (20)) 21 (fun _ => 0)) 18 2 (21))
theorem i_X1_18 (d : Nat) (m : zM) : zR zX1_init (d + 1) [zP 18] m (eC 19) (eC 22) (fun r m' => r = none ∧ m' = w_X1_18 m) := by
  refine zR_go [zP 18] (by decide +kernel) (Nat.le_of_ble_eq_true rfl) rfl rfl ?_
  refine z_aload_n dX1_init_0 rfl ?_
  refine z_objInit dX1_init_1 oiX1 oi_inst oi_code rfl ?_
  refine z_aload_n dX1_init_4 rfl ?_
  refine z_bipush dX1_init_5 rfl (by decide) ?_
  refine z_mki (k := 19) dX1_init_7 ac_int rfl (by decide) (by decide) (Nat.le_of_ble_eq_true rfl) (Nat.le_of_ble_eq_true rfl) ?_
  refine z_pP (n := 5) 0 rfl fpX1_9 dX1_init_9 (by decide) rfl (by decide) ?_
  refine z_aload_n dX1_init_12 rfl ?_
  refine z_bipush dX1_init_13 rfl (by decide) ?_
  refine z_mki (k := 20) dX1_init_15 ac_int rfl (by decide) (by decide) (Nat.le_of_ble_eq_true rfl) (Nat.le_of_ble_eq_true rfl) ?_
  refine z_pP (n := 5) 1 rfl fpX1_15 dX1_init_17 (by decide) rfl (by decide) ?_
  refine z_aload_n dX1_init_20 rfl ?_
  refine z_bipush dX1_init_21 rfl (by decide) ?_
  refine z_mki (k := 21) dX1_init_23 ac_int rfl (by decide) (by decide) (Nat.le_of_ble_eq_true rfl) (Nat.le_of_ble_eq_true rfl) ?_
  refine z_pP (n := 5) 2 rfl fpX1_18 dX1_init_25 (by decide) rfl (by decide) ?_
  refine z_vret dX1_init_28 rfl rfl ?_
  exact ⟨rfl, rfl⟩
def w_X0_14 (m : zM) : zM := (zu (zfill (zu (zfill (zu (zfill (zu (zfill (zu (zfill (zu (zfill (zu (zfill (zu (zfill (zu (zfill (zu (zfill (zu (zfill (zu (w_X1_18 (zfill (zu (w_X2_15 (zfill m 15 (zblank 2))) 14 0 (15)) 18 (zblank 1))) 14 1 (18)) 22 (fun _ => 0)) 14 2 (22)) 23 (fun _ => 0)) 14 3 (23)) 24 (fun _ => 0)) 14 4 (24)) 25 (fun _ => 0)) 14 5 (25)) 26 (fun _ => 0)) 14 6 (26)) 27 (fun _ => 0)) 14 7 (27)) 28 (fun _ => 0)) 14 8 (28)) 29 (fun _ => 0)) 14 9 (29)) 30 (fun _ => 0)) 14 10 (30)) 31 (fun _ => 0)) 14 11 (31)) 32 (fun _ => 0)) 14 12 (32))
theorem i_X0_14 (d : Nat) (m : zM) : zR zX0_init (d + 2) [zP 14] m (eC 15) (eC 33) (fun r m' => r = none ∧ m' = w_X0_14 m) := by
  refine zR_go [zP 14] (by decide +kernel) (Nat.le_of_ble_eq_true rfl) rfl rfl ?_
  refine z_aload_n dX0_init_0 rfl ?_
  refine z_objInit dX0_init_1 oiX0 oi_inst oi_code rfl ?_
  refine z_aload_n dX0_init_4 rfl ?_
  refine z_mko (k := 15) nwX0_9 dX0_init_5 rfl (by decide) (Nat.le_of_ble_eq_true rfl) (Nat.le_of_ble_eq_true rfl) ?_
  refine z_dup dX0_init_8 rfl ?_
  refine z_callI mlX0_11 dX0_init_9 (av := []) rfl rfl (Nat.le_of_ble_eq_true rfl) (i_X2_15 _ _) (Nat.le_of_ble_eq_true rfl) (Nat.le_of_ble_eq_true rfl) (Nat.le_of_ble_eq_true rfl) (Nat.le_of_ble_eq_true rfl) ?_
  rintro _ _ ⟨rfl, rfl⟩
  refine z_pP (n := 20) 0 rfl fpX0_12 dX0_init_12 (by decide) rfl (by decide) ?_
  refine z_aload_n dX0_init_15 rfl ?_
  refine z_mko (k := 18) nwX0_18 dX0_init_16 rfl (by decide) (Nat.le_of_ble_eq_true rfl) (Nat.le_of_ble_eq_true rfl) ?_
  refine z_dup dX0_init_19 rfl ?_
  refine z_callI mlX0_20 dX0_init_20 (av := []) rfl rfl (Nat.le_of_ble_eq_true rfl) (i_X1_18 _ _) (Nat.le_of_ble_eq_true rfl) (Nat.le_of_ble_eq_true rfl) (Nat.le_of_ble_eq_true rfl) (Nat.le_of_ble_eq_true rfl) ?_
  rintro _ _ ⟨rfl, rfl⟩
  refine z_pP (n := 20) 1 rfl fpX0_21 dX0_init_23 (by decide) rfl (by decide) ?_
  refine z_aload_n dX0_init_26 rfl ?_
  refine z_bipush dX0_init_27 rfl (by decide) ?_
  refine z_mki (k := 22) dX0_init_29 ac_int rfl (by decide) (by decide) (Nat.le_of_ble_eq_true rfl) (Nat.le_of_ble_eq_true rfl) ?_
  refine z_pP (n := 20) 2 rfl fpX0_25 dX0_init_31 (by decide) rfl (by decide) ?_
  refine z_aload_n dX0_init_34 rfl ?_
  refine z_bipush dX0_init_35 rfl (by decide) ?_
  refine z_mki (k := 23) dX0_init_37 ac_int rfl (by decide) (by decide) (Nat.le_of_ble_eq_true rfl) (Nat.le_of_ble_eq_true rfl) ?_
  refine z_pP (n := 20) 3 rfl fpX0_29 dX0_init_39 (by decide) rfl (by decide) ?_
  refine z_aload_n dX0_init_42 rfl ?_
  refine z_bipush dX0_init_43 rfl (by decide) ?_
  refine z_mki (k := 24) dX0_init_45 ac_int rfl (by decide) (by decide) (Nat.le_of_ble_eq_true rfl) (Nat.le_of_ble_eq_true rfl) ?_
  refine z_pP (n := 20) 4 rfl fpX0_32 dX0_init_47 (by decide) rfl (by decide) ?_
  refine z_aload_n dX0_init_50 rfl ?_
  refine z_bipush dX0_init_51 rfl (by decide) ?_
  refine z_mkl (k := 25) dX0_init_53 ac_long rfl (by decide) (by decide) (Nat.le_of_ble_eq_true rfl) (Nat.le_of_ble_eq_true rfl) ?_
  refine z_pP (n := 20) 5 rfl (fpX0_35 _) dX0_init_55 (by decide) rfl (by decide) ?_
  refine z_aload_n dX0_init_58 rfl ?_
  refine z_bipush dX0_init_59 rfl (by decide) ?_
  refine z_mki (k := 26) dX0_init_61 ac_int rfl (by decide) (by decide) (Nat.le_of_ble_eq_true rfl) (Nat.le_of_ble_eq_true rfl) ?_
  refine z_pP (n := 20) 6 rfl (fpX0_39 _) dX0_init_63 (by decide) rfl (by decide) ?_
  refine z_aload_n dX0_init_66 rfl ?_
  refine z_bipush dX0_init_67 rfl (by decide) ?_
  refine z_mki (k := 27) dX0_init_69 ac_int rfl (by decide) (by decide) (Nat.le_of_ble_eq_true rfl) (Nat.le_of_ble_eq_true rfl) ?_
  refine z_pP (n := 20) 7 rfl (fpX0_42 _) dX0_init_71 (by decide) rfl (by decide) ?_
  refine z_aload_n dX0_init_74 rfl ?_
  refine z_bipush dX0_init_75 rfl (by decide) ?_
  refine z_mki (k := 28) dX0_init_77 ac_int rfl (by decide) (by decide) (Nat.le_of_ble_eq_true rfl) (Nat.le_of_ble_eq_true rfl) ?_
  refine z_pP (n := 20) 8 rfl (fpX0_45 _) dX0_init_79 (by decide) rfl (by decide) ?_
  refine z_aload_n dX0_init_82 rfl ?_
  refine z_bipush dX0_init_83 rfl (by decide) ?_
  refine z_mki (k := 29) dX0_init_85 ac_int rfl (by decide) (by decide) (Nat.le_of_ble_eq_true rfl) (Nat.le_of_ble_eq_true rfl) ?_
  refine z_pP (n := 20) 9 rfl (fpX0_48 _) dX0_init_87 (by decide) rfl (by decide) ?_
  refine z_aload_n dX0_init_90 rfl ?_
  refine z_bipush dX0_init_91 rfl (by decide) ?_
  refine z_mki (k := 30) dX0_init_93 ac_int rfl (by decide) (by decide) (Nat.le_of_ble_eq_true rfl) (Nat.le_of_ble_eq_true rfl) ?_
  refine z_pP (n := 20) 10 rfl (fpX0_51 _) dX0_init_95 (by decide) rfl (by decide) ?_
  refine z_aload_n dX0_init_98 rfl ?_
  refine z_bipush dX0_init_99 rfl (by decide) ?_
  refine z_mki (k := 31) dX0_init_101 ac_int rfl (by decide) (by decide) (Nat.le_of_ble_eq_true rfl) (Nat.le_of_ble_eq_true rfl) ?_
  refine z_pP (n := 20) 11 rfl (fpX0_54 _) dX0_init_103 (by decide) rfl (by decide) ?_
  refine z_aload_n dX0_init_106 rfl ?_
  refine z_bipush dX0_init_107 rfl (by decide) ?_
  refine z_mki (k := 32) dX0_init_109 ac_int rfl (by decide) (by decide) (Nat.le_of_ble_eq_true rfl) (Nat.le_of_ble_eq_true rfl) ?_
  refine z_pP (n := 20) 12 rfl (fpX0_57 _) dX0_init_111 (by decide) rfl (by decide) ?_
  refine z_vret dX0_init_114 rfl rfl ?_
  exact ⟨rfl, rfl⟩
def w_X1_33 (m : zM) : zM := (zu (zfill (zu (zfill (zu (zfill m 34 (fun _ => 0)) 33 0 (34)) 35 (fun _ => 0)) 33 1 (35)) 36 (fun _ => 0)) 33 2 (36))
theorem i_X1_33 (d : Nat) (m : zM) : zR zX1_init (d + 1) [zP 33] m (eC 34) (eC 37) (fun r m' => r = none ∧ m' = w_X1_33 m) := by
  refine zR_go [zP 33] (by decide +kernel) (Nat.le_of_ble_eq_true rfl) rfl rfl ?_
  refine z_aload_n dX1_init_0 rfl ?_
  refine z_objInit dX1_init_1 oiX1 oi_inst oi_code rfl ?_
  refine z_aload_n dX1_init_4 rfl ?_
  refine z_bipush dX1_init_5 rfl (by decide) ?_
  refine z_mki (k := 34) dX1_init_7 ac_int rfl (by decide) (by decide) (Nat.le_of_ble_eq_true rfl) (Nat.le_of_ble_eq_true rfl) ?_
  refine z_pP (n := 5) 0 rfl fpX1_9 dX1_init_9 (by decide) rfl (by decide) ?_
  refine z_aload_n dX1_init_12 rfl ?_
  refine z_bipush dX1_init_13 rfl (by decide) ?_
  refine z_mki (k := 35) dX1_init_15 ac_int rfl (by decide) (by decide) (Nat.le_of_ble_eq_true rfl) (Nat.le_of_ble_eq_true rfl) ?_
  refine z_pP (n := 5) 1 rfl fpX1_15 dX1_init_17 (by decide) rfl (by decide) ?_
  refine z_aload_n dX1_init_20 rfl ?_
  refine z_bipush dX1_init_21 rfl (by decide) ?_
  refine z_mki (k := 36) dX1_init_23 ac_int rfl (by decide) (by decide) (Nat.le_of_ble_eq_true rfl) (Nat.le_of_ble_eq_true rfl) ?_
  refine z_pP (n := 5) 2 rfl fpX1_18 dX1_init_25 (by decide) rfl (by decide) ?_
  refine z_vret dX1_init_28 rfl rfl ?_
  exact ⟨rfl, rfl⟩
def w_X6_37 (m : zM) : zM := (zu (zfill m 38 (fun _ => 0)) 37 0 (38))
theorem i_X6_37 (d : Nat) (m : zM) : zR zX6_init (d + 1) [zP 37] m (eC 38) (eC 39) (fun r m' => r = none ∧ m' = w_X6_37 m) := by
  refine zR_go [zP 37] (by decide +kernel) (Nat.le_of_ble_eq_true rfl) rfl rfl ?_
  refine z_aload_n dX6_init_0 rfl ?_
  refine z_objInit dX6_init_1 oiX6 oi_inst oi_code rfl ?_
  refine z_aload_n dX6_init_4 rfl ?_
  refine z_bipush dX6_init_5 rfl (by decide) ?_
  refine z_mki (k := 38) dX6_init_7 ac_int rfl (by decide) (by decide) (Nat.le_of_ble_eq_true rfl) (Nat.le_of_ble_eq_true rfl) ?_
  refine z_pP (n := 2) 0 rfl fpX6_9 dX6_init_9 (by decide) rfl (by decide) ?_
  refine z_vret dX6_init_12 rfl rfl ?_
  exact ⟨rfl, rfl⟩
def w_X5_51 (m : zM) : zM := (zu (zfill m 52 (fun _ => 0)) 51 0 (52))
theorem i_X5_51 (d : Nat) (m : zM) : zR zX5_init (d + 1) [zP 51] m (eC 52) (eC 53) (fun r m' => r = none ∧ m' = w_X5_51 m) := by
  refine zR_go [zP 51] (by decide +kernel) (Nat.le_of_ble_eq_true rfl) rfl rfl ?_
  refine z_aload_n dX5_init_0 rfl ?_
  refine z_objInit dX5_init_1 oiX5 oi_inst oi_code rfl ?_
  refine z_aload_n dX5_init_4 rfl ?_
  refine z_bipush dX5_init_5 rfl (by decide) ?_
  refine z_mki (k := 52) dX5_init_7 ac_int rfl (by decide) (by decide) (Nat.le_of_ble_eq_true rfl) (Nat.le_of_ble_eq_true rfl) ?_
  refine z_pP (n := 4) 0 rfl fpX5_9 dX5_init_9 (by decide) rfl (by decide) ?_
  refine z_vret dX5_init_12 rfl rfl ?_
  exact ⟨rfl, rfl⟩
def w_X5_53 (m : zM) : zM := (zu (zfill m 54 (fun _ => 0)) 53 0 (54))
theorem i_X5_53 (d : Nat) (m : zM) : zR zX5_init (d + 1) [zP 53] m (eC 54) (eC 55) (fun r m' => r = none ∧ m' = w_X5_53 m) := by
  refine zR_go [zP 53] (by decide +kernel) (Nat.le_of_ble_eq_true rfl) rfl rfl ?_
  refine z_aload_n dX5_init_0 rfl ?_
  refine z_objInit dX5_init_1 oiX5 oi_inst oi_code rfl ?_
  refine z_aload_n dX5_init_4 rfl ?_
  refine z_bipush dX5_init_5 rfl (by decide) ?_
  refine z_mki (k := 54) dX5_init_7 ac_int rfl (by decide) (by decide) (Nat.le_of_ble_eq_true rfl) (Nat.le_of_ble_eq_true rfl) ?_
  refine z_pP (n := 4) 0 rfl fpX5_9 dX5_init_9 (by decide) rfl (by decide) ?_
  refine z_vret dX5_init_12 rfl rfl ?_
  exact ⟨rfl, rfl⟩
def w_X5_55 (m : zM) : zM := (zu (zfill m 56 (fun _ => 0)) 55 0 (56))
theorem i_X5_55 (d : Nat) (m : zM) : zR zX5_init (d + 1) [zP 55] m (eC 56) (eC 57) (fun r m' => r = none ∧ m' = w_X5_55 m) := by
  refine zR_go [zP 55] (by decide +kernel) (Nat.le_of_ble_eq_true rfl) rfl rfl ?_
  refine z_aload_n dX5_init_0 rfl ?_
  refine z_objInit dX5_init_1 oiX5 oi_inst oi_code rfl ?_
  refine z_aload_n dX5_init_4 rfl ?_
  refine z_bipush dX5_init_5 rfl (by decide) ?_
  refine z_mki (k := 56) dX5_init_7 ac_int rfl (by decide) (by decide) (Nat.le_of_ble_eq_true rfl) (Nat.le_of_ble_eq_true rfl) ?_
  refine z_pP (n := 4) 0 rfl fpX5_9 dX5_init_9 (by decide) rfl (by decide) ?_
  refine z_vret dX5_init_12 rfl rfl ?_
  exact ⟨rfl, rfl⟩
def w_X5_57 (m : zM) : zM := (zu (zfill m 58 (fun _ => 0)) 57 0 (58))
theorem i_X5_57 (d : Nat) (m : zM) : zR zX5_init (d + 1) [zP 57] m (eC 58) (eC 59) (fun r m' => r = none ∧ m' = w_X5_57 m) := by
  refine zR_go [zP 57] (by decide +kernel) (Nat.le_of_ble_eq_true rfl) rfl rfl ?_
  refine z_aload_n dX5_init_0 rfl ?_
  refine z_objInit dX5_init_1 oiX5 oi_inst oi_code rfl ?_
  refine z_aload_n dX5_init_4 rfl ?_
  refine z_bipush dX5_init_5 rfl (by decide) ?_
  refine z_mki (k := 58) dX5_init_7 ac_int rfl (by decide) (by decide) (Nat.le_of_ble_eq_true rfl) (Nat.le_of_ble_eq_true rfl) ?_
  refine z_pP (n := 4) 0 rfl fpX5_9 dX5_init_9 (by decide) rfl (by decide) ?_
  refine z_vret dX5_init_12 rfl rfl ?_
  exact ⟨rfl, rfl⟩
def w_X5_59 (m : zM) : zM := (zu (zfill m 60 (fun _ => 0)) 59 0 (60))
theorem i_X5_59 (d : Nat) (m : zM) : zR zX5_init (d + 1) [zP 59] m (eC 60) (eC 61) (fun r m' => r = none ∧ m' = w_X5_59 m) := by
  refine zR_go [zP 59] (by decide +kernel) (Nat.le_of_ble_eq_true rfl) rfl rfl ?_
  refine z_aload_n dX5_init_0 rfl ?_
  refine z_objInit dX5_init_1 oiX5 oi_inst oi_code rfl ?_
  refine z_aload_n dX5_init_4 rfl ?_
  refine z_bipush dX5_init_5 rfl (by decide) ?_
  refine z_mki (k := 60) dX5_init_7 ac_int rfl (by decide) (by decide) (Nat.le_of_ble_eq_true rfl) (Nat.le_of_ble_eq_true rfl) ?_
  refine z_pP (n := 4) 0 rfl fpX5_9 dX5_init_9 (by decide) rfl (by decide) ?_
  refine z_vret dX5_init_12 rfl rfl ?_
  exact ⟨rfl, rfl⟩
def w_X5_61 (m : zM) : zM := (zu (zfill m 62 (fun _ => 0)) 61 0 (62))
theorem i_X5_61 (d : Nat) (m : zM) : zR zX5_init (d + 1) [zP 61] m (eC 62) (eC 63) (fun r m' => r = none ∧ m' = w_X5_61 m) := by
  refine zR_go [zP 61] (by decide +kernel) (Nat.le_of_ble_eq_true rfl) rfl rfl ?_
  refine z_aload_n dX5_init_0 rfl ?_
  refine z_objInit dX5_init_1 oiX5 oi_inst oi_code rfl ?_
  refine z_aload_n dX5_init_4 rfl ?_
  refine z_bipush dX5_init_5 rfl (by decide) ?_
  refine z_mki (k := 62) dX5_init_7 ac_int rfl (by decide) (by decide) (Nat.le_of_ble_eq_true rfl) (Nat.le_of_ble_eq_true rfl) ?_
  refine z_pP (n := 4) 0 rfl fpX5_9 dX5_init_9 (by decide) rfl (by decide) ?_
  refine z_vret dX5_init_12 rfl rfl ?_
  exact ⟨rfl, rfl⟩
def w_X5_63 (m : zM) : zM := (zu (zfill m 64 (fun _ => 0)) 63 0 (64))
theorem i_X5_63 (d : Nat) (m : zM) : zR zX5_init (d + 1) [zP 63] m (eC 64) (eC 65) (fun r m' => r = none ∧ m' = w_X5_63 m) := by
  refine zR_go [zP 63] (by decide +kernel) (Nat.le_of_ble_eq_true rfl) rfl rfl ?_
  refine z_aload_n dX5_init_0 rfl ?_
  refine z_objInit dX5_init_1 oiX5 oi_inst oi_code rfl ?_
  refine z_aload_n dX5_init_4 rfl ?_
  refine z_bipush dX5_init_5 rfl (by decide) ?_
  refine z_mki (k := 64) dX5_init_7 ac_int rfl (by decide) (by decide) (Nat.le_of_ble_eq_true rfl) (Nat.le_of_ble_eq_true rfl) ?_
  refine z_pP (n := 4) 0 rfl fpX5_9 dX5_init_9 (by decide) rfl (by decide) ?_
  refine z_vret dX5_init_12 rfl rfl ?_
  exact ⟨rfl, rfl⟩
def w_X5_65 (m : zM) : zM := (zu (zfill m 66 (fun _ => 0)) 65 0 (66))
theorem i_X5_65 (d : Nat) (m : zM) : zR zX5_init (d + 1) [zP 65] m (eC 66) (eC 67) (fun r m' => r = none ∧ m' = w_X5_65 m) := by
  refine zR_go [zP 65] (by decide +kernel) (Nat.le_of_ble_eq_true rfl) rfl rfl ?_
  refine z_aload_n dX5_init_0 rfl ?_
  refine z_objInit dX5_init_1 oiX5 oi_inst oi_code rfl ?_
  refine z_aload_n dX5_init_4 rfl ?_
  refine z_bipush dX5_init_5 rfl (by decide) ?_
  refine z_mki (k := 66) dX5_init_7 ac_int rfl (by decide) (by decide) (Nat.le_of_ble_eq_true rfl) (Nat.le_of_ble_eq_true rfl) ?_
  refine z_pP (n := 4) 0 rfl fpX5_9 dX5_init_9 (by decide) rfl (by decide) ?_
  refine z_vret dX5_init_12 rfl rfl ?_
  exact ⟨rfl, rfl⟩
def w_X7_39 (m : zM) : zM := (zu (w_X5_65 (zfill (zu (w_X5_63 (zfill (zu (w_X5_61 (zfill (zu (w_X5_59 (zfill (zu (w_X5_57 (zfill (zu (w_X5_55 (zfill (zu (w_X5_53 (zfill (zu (w_X5_51 (zfill (zu (zfill (zu (zfill (zu (zfill (zu (zfill (zu (zfill (zu (zfill (zu (zfill (zu (zfill (zu (zfill (zu (zfill (zu (zfill m 40 (fun _ => 0)) 39 0 (40)) 41 (fun _ => 0)) 39 1 (41)) 42 (fun _ => 0)) 39 2 (42)) 43 (fun _ => 0)) 39 3 (43)) 44 (fun _ => 0)) 39 4 (44)) 45 (fun _ => -1)) 39 5 (45)) 46 (fun _ => 0)) 39 6 (46)) 47 (fun _ => 0)) 39 7 (47)) 48 (fun _ => 0)) 39 8 (48)) 49 (fun _ => 0)) 39 9 (49)) 50 (fun _ => 0)) 39 10 (50)) 51 (zblank 5))) 45 0 51) 53 (zblank 5))) 45 1 53) 55 (zblank 5))) 45 2 55) 57 (zblank 5))) 45 3 57) 59 (zblank 5))) 45 4 59) 61 (zblank 5))) 45 5 61) 63 (zblank 5))) 45 6 63) 65 (zblank 5))) 45 7 65)
theorem i_X7_39 (d : Nat) (m : zM) : zR zX7_init (d + 2) [zP 39] m (eC 40) (eC 67) (fun r m' => r = none ∧ m' = w_X7_39 m) := by
  refine zR_go [zP 39, zN] (by decide +kernel) (Nat.le_of_ble_eq_true rfl) rfl rfl ?_
  refine z_aload_n dX7_init_0 rfl ?_
  refine z_objInit dX7_init_1 oiX7 oi_inst oi_code rfl ?_
  refine z_aload_n dX7_init_4 rfl ?_
  refine z_bipush dX7_init_5 rfl (by decide) ?_
  refine z_mki (k := 40) dX7_init_7 ac_int rfl (by decide) (by decide) (Nat.le_of_ble_eq_true rfl) (Nat.le_of_ble_eq_true rfl) ?_
  refine z_pP (n := 16) 0 rfl fpX7_9 dX7_init_9 (by decide) rfl (by decide) ?_
  refine z_aload_n dX7_init_12 rfl ?_
  refine z_bipush dX7_init_13 rfl (by decide) ?_
  refine z_mkz (k := 41) dX7_init_15 ac_boolean rfl (by decide) (by decide) (Nat.le_of_ble_eq_true rfl) (Nat.le_of_ble_eq_true rfl) ?_
  refine z_pP (n := 16) 1 rfl fpX7_15 dX7_init_17 (by decide) rfl (by decide) ?_
  refine z_aload_n dX7_init_20 rfl ?_
  refine z_bipush dX7_init_21 rfl (by decide) ?_
  refine z_mkz (k := 42) dX7_init_23 ac_boolean rfl (by decide) (by decide) (Nat.le_of_ble_eq_true rfl) (Nat.le_of_ble_eq_true rfl) ?_
  refine z_pP (n := 16) 2 rfl fpX7_19 dX7_init_25 (by decide) rfl (by decide) ?_
  refine z_aload_n dX7_init_28 rfl ?_
  refine z_iconst dX7_init_29 (by decide) ?_
  refine z_mki (k := 43) dX7_init_30 ac_int rfl (by decide) (by decide) (Nat.le_of_ble_eq_true rfl) (Nat.le_of_ble_eq_true rfl) ?_
  refine z_pP (n := 16) 3 rfl fpX7_22 dX7_init_32 (by decide) rfl (by decide) ?_
  refine z_aload_n dX7_init_35 rfl ?_
  refine z_iconst dX7_init_36 (by decide) ?_
  refine z_mki (k := 44) dX7_init_37 ac_int rfl (by decide) (by decide) (Nat.le_of_ble_eq_true rfl) (Nat.le_of_ble_eq_true rfl) ?_
  refine z_pP (n := 16) 4 rfl fpX7_25 dX7_init_39 (by decide) rfl (by decide) ?_
  refine z_aload_n dX7_init_42 rfl ?_
  refine z_bipush dX7_init_43 rfl (by decide) ?_
  refine z_mka (k := 45) dX7_init_45 clX7_28 rfl (by decide) (by decide) (Nat.le_of_ble_eq_true rfl) (Nat.le_of_ble_eq_true rfl) ?_
  refine z_pP (n := 16) 5 rfl fpX7_30 dX7_init_48 (by decide) rfl (by decide) ?_
  refine z_aload_n dX7_init_51 rfl ?_
  refine z_bipush dX7_init_52 rfl (by decide) ?_
  refine z_mki (k := 46) dX7_init_54 ac_int rfl (by decide) (by decide) (Nat.le_of_ble_eq_true rfl) (Nat.le_of_ble_eq_true rfl) ?_
  refine z_pP (n := 16) 6 rfl fpX7_34 dX7_init_56 (by decide) rfl (by decide) ?_
  refine z_aload_n dX7_init_59 rfl ?_
  refine z_bipush dX7_init_60 rfl (by decide) ?_
  refine z_mki (k := 47) dX7_init_62 ac_int rfl (by decide) (by decide) (Nat.le_of_ble_eq_true rfl) (Nat.le_of_ble_eq_true rfl) ?_
  refine z_pP (n := 16) 7 rfl fpX7_37 dX7_init_64 (by decide) rfl (by decide) ?_
  refine z_aload_n dX7_init_67 rfl ?_
  refine z_bipush dX7_init_68 rfl (by decide) ?_
  refine z_mki (k := 48) dX7_init_70 ac_int rfl (by decide) (by decide) (Nat.le_of_ble_eq_true rfl) (Nat.le_of_ble_eq_true rfl) ?_
  refine z_pP (n := 16) 8 rfl fpX7_40 dX7_init_72 (by decide) rfl (by decide) ?_
  refine z_aload_n dX7_init_75 rfl ?_
  refine z_sipush dX7_init_76 rfl (by decide) ?_
  refine z_mki (k := 49) dX7_init_79 ac_int rfl (by decide) (by decide) (Nat.le_of_ble_eq_true rfl) (Nat.le_of_ble_eq_true rfl) ?_
  refine z_pP (n := 16) 9 rfl fpX7_43 dX7_init_81 (by decide) rfl (by decide) ?_
  refine z_aload_n dX7_init_84 rfl ?_
  refine z_sipush dX7_init_85 rfl (by decide) ?_
  refine z_mki (k := 50) dX7_init_88 ac_int rfl (by decide) (by decide) (Nat.le_of_ble_eq_true rfl) (Nat.le_of_ble_eq_true rfl) ?_
  refine z_pP (n := 16) 10 rfl fpX7_46 dX7_init_90 (by decide) rfl (by decide) ?_
  refine z_iconst dX7_init_93 (by decide) ?_
  refine z_ist 1 dX7_init_94 rfl (Nat.le_of_ble_eq_true rfl) ?_
  try dsimp only [zs0, zsI, zsP, zsN, zsJ, zsS, zst2, Nat.reduceAdd]
  refine z_iload_n dX7_init_95 rfl ?_
  refine z_bipush dX7_init_96 rfl (by decide) ?_
  refine z_icmp_ge (tgt := 120) dX7_init_98 rfl (fun h => absurd h (by decide)) (fun _ => ?_)
  refine z_aload_n dX7_init_101 rfl ?_
  refine z_gP (n := 16) 5 rfl (r := 45) flX7_30 dX7_init_102 (by decide) rfl (by rfl) (by decide) ?_
  refine z_iload_n dX7_init_105 rfl ?_
  refine z_mko (k := 51) nwX7_28 dX7_init_106 rfl (by decide) (Nat.le_of_ble_eq_true rfl) (Nat.le_of_ble_eq_true rfl) ?_
  refine z_dup dX7_init_109 rfl ?_
  refine z_callI mlX7_49 dX7_init_110 (av := []) rfl rfl (Nat.le_of_ble_eq_true rfl) (i_X5_51 _ _) (Nat.le_of_ble_eq_true rfl) (Nat.le_of_ble_eq_true rfl) (Nat.le_of_ble_eq_true rfl) (Nat.le_of_ble_eq_true rfl) ?_
  rintro _ _ ⟨rfl, rfl⟩
  refine z_aast (n := 8) (nx := 4) dX7_init_113 (by decide) (by decide) (by decide) (by decide) ?_
  refine z_inc dX7_init_114 rfl (by decide) ?_
  try dsimp only [zs0, zsI, zsP, zsN, zsJ, zsS, zst2, Nat.reduceAdd]
  refine z_goto (tgt := 95) dX7_init_117 rfl ?_
  refine z_iload_n dX7_init_95 rfl ?_
  refine z_bipush dX7_init_96 rfl (by decide) ?_
  refine z_icmp_ge (tgt := 120) dX7_init_98 rfl (fun h => absurd h (by decide)) (fun _ => ?_)
  refine z_aload_n dX7_init_101 rfl ?_
  refine z_gP (n := 16) 5 rfl (r := 45) flX7_30 dX7_init_102 (by decide) rfl (by rfl) (by decide) ?_
  refine z_iload_n dX7_init_105 rfl ?_
  refine z_mko (k := 53) nwX7_28 dX7_init_106 rfl (by decide) (Nat.le_of_ble_eq_true rfl) (Nat.le_of_ble_eq_true rfl) ?_
  refine z_dup dX7_init_109 rfl ?_
  refine z_callI mlX7_49 dX7_init_110 (av := []) rfl rfl (Nat.le_of_ble_eq_true rfl) (i_X5_53 _ _) (Nat.le_of_ble_eq_true rfl) (Nat.le_of_ble_eq_true rfl) (Nat.le_of_ble_eq_true rfl) (Nat.le_of_ble_eq_true rfl) ?_
  rintro _ _ ⟨rfl, rfl⟩
  refine z_aast (n := 8) (nx := 4) dX7_init_113 (by decide) (by decide) (by decide) (by decide) ?_
  refine z_inc dX7_init_114 rfl (by decide) ?_
  try dsimp only [zs0, zsI, zsP, zsN, zsJ, zsS, zst2, Nat.reduceAdd]
  refine z_goto (tgt := 95) dX7_init_117 rfl ?_
  refine z_iload_n dX7_init_95 rfl ?_
  refine z_bipush dX7_init_96 rfl (by decide) ?_
  refine z_icmp_ge (tgt := 120) dX7_init_98 rfl (fun h => absurd h (by decide)) (fun _ => ?_)
  refine z_aload_n dX7_init_101 rfl ?_
  refine z_gP (n := 16) 5 rfl (r := 45) flX7_30 dX7_init_102 (by decide) rfl (by rfl) (by decide) ?_
  refine z_iload_n dX7_init_105 rfl ?_
  refine z_mko (k := 55) nwX7_28 dX7_init_106 rfl (by decide) (Nat.le_of_ble_eq_true rfl) (Nat.le_of_ble_eq_true rfl) ?_
  refine z_dup dX7_init_109 rfl ?_
  refine z_callI mlX7_49 dX7_init_110 (av := []) rfl rfl (Nat.le_of_ble_eq_true rfl) (i_X5_55 _ _) (Nat.le_of_ble_eq_true rfl) (Nat.le_of_ble_eq_true rfl) (Nat.le_of_ble_eq_true rfl) (Nat.le_of_ble_eq_true rfl) ?_
  rintro _ _ ⟨rfl, rfl⟩
  refine z_aast (n := 8) (nx := 4) dX7_init_113 (by decide) (by decide) (by decide) (by decide) ?_
  refine z_inc dX7_init_114 rfl (by decide) ?_
  try dsimp only [zs0, zsI, zsP, zsN, zsJ, zsS, zst2, Nat.reduceAdd]
  refine z_goto (tgt := 95) dX7_init_117 rfl ?_
  refine z_iload_n dX7_init_95 rfl ?_
  refine z_bipush dX7_init_96 rfl (by decide) ?_
  refine z_icmp_ge (tgt := 120) dX7_init_98 rfl (fun h => absurd h (by decide)) (fun _ => ?_)
  refine z_aload_n dX7_init_101 rfl ?_
  refine z_gP (n := 16) 5 rfl (r := 45) flX7_30 dX7_init_102 (by decide) rfl (by rfl) (by decide) ?_
  refine z_iload_n dX7_init_105 rfl ?_
  refine z_mko (k := 57) nwX7_28 dX7_init_106 rfl (by decide) (Nat.le_of_ble_eq_true rfl) (Nat.le_of_ble_eq_true rfl) ?_
  refine z_dup dX7_init_109 rfl ?_
  refine z_callI mlX7_49 dX7_init_110 (av := []) rfl rfl (Nat.le_of_ble_eq_true rfl) (i_X5_57 _ _) (Nat.le_of_ble_eq_true rfl) (Nat.le_of_ble_eq_true rfl) (Nat.le_of_ble_eq_true rfl) (Nat.le_of_ble_eq_true rfl) ?_
  rintro _ _ ⟨rfl, rfl⟩
  refine z_aast (n := 8) (nx := 4) dX7_init_113 (by decide) (by decide) (by decide) (by decide) ?_
  refine z_inc dX7_init_114 rfl (by decide) ?_
  try dsimp only [zs0, zsI, zsP, zsN, zsJ, zsS, zst2, Nat.reduceAdd]
  refine z_goto (tgt := 95) dX7_init_117 rfl ?_
  refine z_iload_n dX7_init_95 rfl ?_
  refine z_bipush dX7_init_96 rfl (by decide) ?_
  refine z_icmp_ge (tgt := 120) dX7_init_98 rfl (fun h => absurd h (by decide)) (fun _ => ?_)
  refine z_aload_n dX7_init_101 rfl ?_
  refine z_gP (n := 16) 5 rfl (r := 45) flX7_30 dX7_init_102 (by decide) rfl (by rfl) (by decide) ?_
  refine z_iload_n dX7_init_105 rfl ?_
  refine z_mko (k := 59) nwX7_28 dX7_init_106 rfl (by decide) (Nat.le_of_ble_eq_true rfl) (Nat.le_of_ble_eq_true rfl) ?_
  refine z_dup dX7_init_109 rfl ?_
  refine z_callI mlX7_49 dX7_init_110 (av := []) rfl rfl (Nat.le_of_ble_eq_true rfl) (i_X5_59 _ _) (Nat.le_of_ble_eq_true rfl) (Nat.le_of_ble_eq_true rfl) (Nat.le_of_ble_eq_true rfl) (Nat.le_of_ble_eq_true rfl) ?_
  rintro _ _ ⟨rfl, rfl⟩
  refine z_aast (n := 8) (nx := 4) dX7_init_113 (by decide) (by decide) (by decide) (by decide) ?_
  refine z_inc dX7_init_114 rfl (by decide) ?_
  try dsimp only [zs0, zsI, zsP, zsN, zsJ, zsS, zst2, Nat.reduceAdd]
  refine z_goto (tgt := 95) dX7_init_117 rfl ?_
  refine z_iload_n dX7_init_95 rfl ?_
  refine z_bipush dX7_init_96 rfl (by decide) ?_
  refine z_icmp_ge (tgt := 120) dX7_init_98 rfl (fun h => absurd h (by decide)) (fun _ => ?_)
  refine z_aload_n dX7_init_101 rfl ?_
  refine z_gP (n := 16) 5 rfl (r := 45) flX7_30 dX7_init_102 (by decide) rfl (by rfl) (by decide) ?_
  refine z_iload_n dX7_init_105 rfl ?_
  refine z_mko (k := 61) nwX7_28 dX7_init_106 rfl (by decide) (Nat.le_of_ble_eq_true rfl) (Nat.le_of_ble_eq_true rfl) ?_
  refine z_dup dX7_init_109 rfl ?_
  refine z_callI mlX7_49 dX7_init_110 (av := []) rfl rfl (Nat.le_of_ble_eq_true rfl) (i_X5_61 _ _) (Nat.le_of_ble_eq_true rfl) (Nat.le_of_ble_eq_true rfl) (Nat.le_of_ble_eq_true rfl) (Nat.le_of_ble_eq_true rfl) ?_
  rintro _ _ ⟨rfl, rfl⟩
  refine z_aast (n := 8) (nx := 4) dX7_init_113 (by decide) (by decide) (by decide) (by decide) ?_
  refine z_inc dX7_init_114 rfl (by decide) ?_
  try dsimp only [zs0, zsI, zsP, zsN, zsJ, zsS, zst2, Nat.reduceAdd]
  refine z_goto (tgt := 95) dX7_init_117 rfl ?_
  refine z_iload_n dX7_init_95 rfl ?_
  refine z_bipush dX7_init_96 rfl (by decide) ?_
  refine z_icmp_ge (tgt := 120) dX7_init_98 rfl (fun h => absurd h (by decide)) (fun _ => ?_)
  refine z_aload_n dX7_init_101 rfl ?_
  refine z_gP (n := 16) 5 rfl (r := 45) flX7_30 dX7_init_102 (by decide) rfl (by rfl) (by decide) ?_
  refine z_iload_n dX7_init_105 rfl ?_
  refine z_mko (k := 63) nwX7_28 dX7_init_106 rfl (by decide) (Nat.le_of_ble_eq_true rfl) (Nat.le_of_ble_eq_true rfl) ?_
  refine z_dup dX7_init_109 rfl ?_
  refine z_callI mlX7_49 dX7_init_110 (av := []) rfl rfl (Nat.le_of_ble_eq_true rfl) (i_X5_63 _ _) (Nat.le_of_ble_eq_true rfl) (Nat.le_of_ble_eq_true rfl) (Nat.le_of_ble_eq_true rfl) (Nat.le_of_ble_eq_true rfl) ?_
  rintro _ _ ⟨rfl, rfl⟩
  refine z_aast (n := 8) (nx := 4) dX7_init_113 (by decide) (by decide) (by decide) (by decide) ?_
  refine z_inc dX7_init_114 rfl (by decide) ?_
  try dsimp only [zs0, zsI, zsP, zsN, zsJ, zsS, zst2, Nat.reduceAdd]
  refine z_goto (tgt := 95) dX7_init_117 rfl ?_
  refine z_iload_n dX7_init_95 rfl ?_
  refine z_bipush dX7_init_96 rfl (by decide) ?_
  refine z_icmp_ge (tgt := 120) dX7_init_98 rfl (fun h => absurd h (by decide)) (fun _ => ?_)
  refine z_aload_n dX7_init_101 rfl ?_
  refine z_gP (n := 16) 5 rfl (r := 45) flX7_30 dX7_init_102 (by decide) rfl (by rfl) (by decide) ?_
  refine z_iload_n dX7_init_105 rfl ?_
  refine z_mko (k := 65) nwX7_28 dX7_init_106 rfl (by decide) (Nat.le_of_ble_eq_true rfl) (Nat.le_of_ble_eq_true rfl) ?_
  refine z_dup dX7_init_109 rfl ?_
  refine z_callI mlX7_49 dX7_init_110 (av := []) rfl rfl (Nat.le_of_ble_eq_true rfl) (i_X5_65 _ _) (Nat.le_of_ble_eq_true rfl) (Nat.le_of_ble_eq_true rfl) (Nat.le_of_ble_eq_true rfl) (Nat.le_of_ble_eq_true rfl) ?_
  rintro _ _ ⟨rfl, rfl⟩
  refine z_aast (n := 8) (nx := 4) dX7_init_113 (by decide) (by decide) (by decide) (by decide) ?_
  refine z_inc dX7_init_114 rfl (by decide) ?_
  try dsimp only [zs0, zsI, zsP, zsN, zsJ, zsS, zst2, Nat.reduceAdd]
  refine z_goto (tgt := 95) dX7_init_117 rfl ?_
  refine z_iload_n dX7_init_95 rfl ?_
  refine z_bipush dX7_init_96 rfl (by decide) ?_
  refine z_icmp_ge (tgt := 120) dX7_init_98 rfl (fun _ => ?_) (fun h => absurd (by decide) h)
  refine z_vret dX7_init_120 rfl rfl ?_
  exact ⟨rfl, rfl⟩
def w_X5_79 (m : zM) : zM := (zu (zfill m 80 (fun _ => 0)) 79 0 (80))
theorem i_X5_79 (d : Nat) (m : zM) : zR zX5_init (d + 1) [zP 79] m (eC 80) (eC 81) (fun r m' => r = none ∧ m' = w_X5_79 m) := by
  refine zR_go [zP 79] (by decide +kernel) (Nat.le_of_ble_eq_true rfl) rfl rfl ?_
  refine z_aload_n dX5_init_0 rfl ?_
  refine z_objInit dX5_init_1 oiX5 oi_inst oi_code rfl ?_
  refine z_aload_n dX5_init_4 rfl ?_
  refine z_bipush dX5_init_5 rfl (by decide) ?_
  refine z_mki (k := 80) dX5_init_7 ac_int rfl (by decide) (by decide) (Nat.le_of_ble_eq_true rfl) (Nat.le_of_ble_eq_true rfl) ?_
  refine z_pP (n := 4) 0 rfl fpX5_9 dX5_init_9 (by decide) rfl (by decide) ?_
  refine z_vret dX5_init_12 rfl rfl ?_
  exact ⟨rfl, rfl⟩
def w_X5_81 (m : zM) : zM := (zu (zfill m 82 (fun _ => 0)) 81 0 (82))
theorem i_X5_81 (d : Nat) (m : zM) : zR zX5_init (d + 1) [zP 81] m (eC 82) (eC 83) (fun r m' => r = none ∧ m' = w_X5_81 m) := by
  refine zR_go [zP 81] (by decide +kernel) (Nat.le_of_ble_eq_true rfl) rfl rfl ?_
  refine z_aload_n dX5_init_0 rfl ?_
  refine z_objInit dX5_init_1 oiX5 oi_inst oi_code rfl ?_
  refine z_aload_n dX5_init_4 rfl ?_
  refine z_bipush dX5_init_5 rfl (by decide) ?_
  refine z_mki (k := 82) dX5_init_7 ac_int rfl (by decide) (by decide) (Nat.le_of_ble_eq_true rfl) (Nat.le_of_ble_eq_true rfl) ?_
  refine z_pP (n := 4) 0 rfl fpX5_9 dX5_init_9 (by decide) rfl (by decide) ?_
  refine z_vret dX5_init_12 rfl rfl ?_
  exact ⟨rfl, rfl⟩
def w_X5_83 (m : zM) : zM := (zu (zfill m 84 (fun _ => 0)) 83 0 (84))
theorem i_X5_83 (d : Nat) (m : zM) : zR zX5_init (d + 1) [zP 83] m (eC 84) (eC 85) (fun r m' => r = none ∧ m' = w_X5_83 m) := by
  refine zR_go [zP 83] (by decide +kernel) (Nat.le_of_ble_eq_true rfl) rfl rfl ?_
  refine z_aload_n dX5_init_0 rfl ?_
  refine z_objInit dX5_init_1 oiX5 oi_inst oi_code rfl ?_
  refine z_aload_n dX5_init_4 rfl ?_
  refine z_bipush dX5_init_5 rfl (by decide) ?_
  refine z_mki (k := 84) dX5_init_7 ac_int rfl (by decide) (by decide) (Nat.le_of_ble_eq_true rfl) (Nat.le_of_ble_eq_true rfl) ?_
  refine z_pP (n := 4) 0 rfl fpX5_9 dX5_init_9 (by decide) rfl (by decide) ?_
  refine z_vret dX5_init_12 rfl rfl ?_
  exact ⟨rfl, rfl⟩
def w_X5_85 (m : zM) : zM := (zu (zfill m 86 (fun _ => 0)) 85 0 (86))
theorem i_X5_85 (d : Nat) (m : zM) : zR zX5_init (d + 1) [zP 85] m (eC 86) (eC 87) (fun r m' => r = none ∧ m' = w_X5_85 m) := by
  refine zR_go [zP 85] (by decide +kernel) (Nat.le_of_ble_eq_true rfl) rfl rfl ?_
  refine z_aload_n dX5_init_0 rfl ?_
  refine z_objInit dX5_init_1 oiX5 oi_inst oi_code rfl ?_
  refine z_aload_n dX5_init_4 rfl ?_
  refine z_bipush dX5_init_5 rfl (by decide) ?_
  refine z_mki (k := 86) dX5_init_7 ac_int rfl (by decide) (by decide) (Nat.le_of_ble_eq_true rfl) (Nat.le_of_ble_eq_true rfl) ?_
  refine z_pP (n := 4) 0 rfl fpX5_9 dX5_init_9 (by decide) rfl (by decide) ?_
  refine z_vret dX5_init_12 rfl rfl ?_
  exact ⟨rfl, rfl⟩
def w_X5_87 (m : zM) : zM := (zu (zfill m 88 (fun _ => 0)) 87 0 (88))
theorem i_X5_87 (d : Nat) (m : zM) : zR zX5_init (d + 1) [zP 87] m (eC 88) (eC 89) (fun r m' => r = none ∧ m' = w_X5_87 m) := by
  refine zR_go [zP 87] (by decide +kernel) (Nat.le_of_ble_eq_true rfl) rfl rfl ?_
  refine z_aload_n dX5_init_0 rfl ?_
  refine z_objInit dX5_init_1 oiX5 oi_inst oi_code rfl ?_
  refine z_aload_n dX5_init_4 rfl ?_
  refine z_bipush dX5_init_5 rfl (by decide) ?_
  refine z_mki (k := 88) dX5_init_7 ac_int rfl (by decide) (by decide) (Nat.le_of_ble_eq_true rfl) (Nat.le_of_ble_eq_true rfl) ?_
  refine z_pP (n := 4) 0 rfl fpX5_9 dX5_init_9 (by decide) rfl (by decide) ?_
  refine z_vret dX5_init_12 rfl rfl ?_
  exact ⟨rfl, rfl⟩
def w_X5_89 (m : zM) : zM := (zu (zfill m 90 (fun _ => 0)) 89 0 (90))
theorem i_X5_89 (d : Nat) (m : zM) : zR zX5_init (d + 1) [zP 89] m (eC 90) (eC 91) (fun r m' => r = none ∧ m' = w_X5_89 m) := by
  refine zR_go [zP 89] (by decide +kernel) (Nat.le_of_ble_eq_true rfl) rfl rfl ?_
  refine z_aload_n dX5_init_0 rfl ?_
  refine z_objInit dX5_init_1 oiX5 oi_inst oi_code rfl ?_
  refine z_aload_n dX5_init_4 rfl ?_
  refine z_bipush dX5_init_5 rfl (by decide) ?_
  refine z_mki (k := 90) dX5_init_7 ac_int rfl (by decide) (by decide) (Nat.le_of_ble_eq_true rfl) (Nat.le_of_ble_eq_true rfl) ?_
  refine z_pP (n := 4) 0 rfl fpX5_9 dX5_init_9 (by decide) rfl (by decide) ?_
  refine z_vret dX5_init_12 rfl rfl ?_
  exact ⟨rfl, rfl⟩
def w_X5_91 (m : zM) : zM := (zu (zfill m 92 (fun _ => 0)) 91 0 (92))
theorem i_X5_91 (d : Nat) (m : zM) : zR zX5_init (d + 1) [zP 91] m (eC 92) (eC 93) (fun r m' => r = none ∧ m' = w_X5_91 m) := by
  refine zR_go [zP 91] (by decide +kernel) (Nat.le_of_ble_eq_true rfl) rfl rfl ?_
  refine z_aload_n dX5_init_0 rfl ?_
  refine z_objInit dX5_init_1 oiX5 oi_inst oi_code rfl ?_
  refine z_aload_n dX5_init_4 rfl ?_
  refine z_bipush dX5_init_5 rfl (by decide) ?_
  refine z_mki (k := 92) dX5_init_7 ac_int rfl (by decide) (by decide) (Nat.le_of_ble_eq_true rfl) (Nat.le_of_ble_eq_true rfl) ?_
  refine z_pP (n := 4) 0 rfl fpX5_9 dX5_init_9 (by decide) rfl (by decide) ?_
  refine z_vret dX5_init_12 rfl rfl ?_
  exact ⟨rfl, rfl⟩
def w_X5_93 (m : zM) : zM := (zu (zfill m 94 (fun _ => 0)) 93 0 (94))
theorem i_X5_93 (d : Nat) (m : zM) : zR zX5_init (d + 1) [zP 93] m (eC 94) (eC 95) (fun r m' => r = none ∧ m' = w_X5_93 m) := by
  refine zR_go [zP 93] (by decide +kernel) (Nat.le_of_ble_eq_true rfl) rfl rfl ?_
  refine z_aload_n dX5_init_0 rfl ?_
  refine z_objInit dX5_init_1 oiX5 oi_inst oi_code rfl ?_
  refine z_aload_n dX5_init_4 rfl ?_
  refine z_bipush dX5_init_5 rfl (by decide) ?_
  refine z_mki (k := 94) dX5_init_7 ac_int rfl (by decide) (by decide) (Nat.le_of_ble_eq_true rfl) (Nat.le_of_ble_eq_true rfl) ?_
  refine z_pP (n := 4) 0 rfl fpX5_9 dX5_init_9 (by decide) rfl (by decide) ?_
  refine z_vret dX5_init_12 rfl rfl ?_
  exact ⟨rfl, rfl⟩
def w_X7_67 (m : zM) : zM := (zu (w_X5_93 (zfill (zu (w_X5_91 (zfill (zu (w_X5_89 (zfill (zu (w_X5_87 (zfill (zu (w_X5_85 (zfill (zu (w_X5_83 (zfill (zu (w_X5_81 (zfill (zu (w_X5_79 (zfill (zu (zfill (zu (zfill (zu (zfill (zu (zfill (zu (zfill (zu (zfill (zu (zfill (zu (zfill (zu (zfill (zu (zfill (zu (zfill m 68 (fun _ => 0)) 67 0 (68)) 69 (fun _ => 0)) 67 1 (69)) 70 (fun _ => 0)) 67 2 (70)) 71 (fun _ => 0)) 67 3 (71)) 72 (fun _ => 0)) 67 4 (72)) 73 (fun _ => -1)) 67 5 (73)) 74 (fun _ => 0)) 67 6 (74)) 75 (fun _ => 0)) 67 7 (75)) 76 (fun _ => 0)) 67 8 (76)) 77 (fun _ => 0)) 67 9 (77)) 78 (fun _ => 0)) 67 10 (78)) 79 (zblank 5))) 73 0 79) 81 (zblank 5))) 73 1 81) 83 (zblank 5))) 73 2 83) 85 (zblank 5))) 73 3 85) 87 (zblank 5))) 73 4 87) 89 (zblank 5))) 73 5 89) 91 (zblank 5))) 73 6 91) 93 (zblank 5))) 73 7 93)
theorem i_X7_67 (d : Nat) (m : zM) : zR zX7_init (d + 2) [zP 67] m (eC 68) (eC 95) (fun r m' => r = none ∧ m' = w_X7_67 m) := by
  refine zR_go [zP 67, zN] (by decide +kernel) (Nat.le_of_ble_eq_true rfl) rfl rfl ?_
  refine z_aload_n dX7_init_0 rfl ?_
  refine z_objInit dX7_init_1 oiX7 oi_inst oi_code rfl ?_
  refine z_aload_n dX7_init_4 rfl ?_
  refine z_bipush dX7_init_5 rfl (by decide) ?_
  refine z_mki (k := 68) dX7_init_7 ac_int rfl (by decide) (by decide) (Nat.le_of_ble_eq_true rfl) (Nat.le_of_ble_eq_true rfl) ?_
  refine z_pP (n := 16) 0 rfl fpX7_9 dX7_init_9 (by decide) rfl (by decide) ?_
  refine z_aload_n dX7_init_12 rfl ?_
  refine z_bipush dX7_init_13 rfl (by decide) ?_
  refine z_mkz (k := 69) dX7_init_15 ac_boolean rfl (by decide) (by decide) (Nat.le_of_ble_eq_true rfl) (Nat.le_of_ble_eq_true rfl) ?_
  refine z_pP (n := 16) 1 rfl fpX7_15 dX7_init_17 (by decide) rfl (by decide) ?_
  refine z_aload_n dX7_init_20 rfl ?_
  refine z_bipush dX7_init_21 rfl (by decide) ?_
  refine z_mkz (k := 70) dX7_init_23 ac_boolean rfl (by decide) (by decide) (Nat.le_of_ble_eq_true rfl) (Nat.le_of_ble_eq_true rfl) ?_
  refine z_pP (n := 16) 2 rfl fpX7_19 dX7_init_25 (by decide) rfl (by decide) ?_
  refine z_aload_n dX7_init_28 rfl ?_
  refine z_iconst dX7_init_29 (by decide) ?_
  refine z_mki (k := 71) dX7_init_30 ac_int rfl (by decide) (by decide) (Nat.le_of_ble_eq_true rfl) (Nat.le_of_ble_eq_true rfl) ?_
  refine z_pP (n := 16) 3 rfl fpX7_22 dX7_init_32 (by decide) rfl (by decide) ?_
  refine z_aload_n dX7_init_35 rfl ?_
  refine z_iconst dX7_init_36 (by decide) ?_
  refine z_mki (k := 72) dX7_init_37 ac_int rfl (by decide) (by decide) (Nat.le_of_ble_eq_true rfl) (Nat.le_of_ble_eq_true rfl) ?_
  refine z_pP (n := 16) 4 rfl fpX7_25 dX7_init_39 (by decide) rfl (by decide) ?_
  refine z_aload_n dX7_init_42 rfl ?_
  refine z_bipush dX7_init_43 rfl (by decide) ?_
  refine z_mka (k := 73) dX7_init_45 clX7_28 rfl (by decide) (by decide) (Nat.le_of_ble_eq_true rfl) (Nat.le_of_ble_eq_true rfl) ?_
  refine z_pP (n := 16) 5 rfl fpX7_30 dX7_init_48 (by decide) rfl (by decide) ?_
  refine z_aload_n dX7_init_51 rfl ?_
  refine z_bipush dX7_init_52 rfl (by decide) ?_
  refine z_mki (k := 74) dX7_init_54 ac_int rfl (by decide) (by decide) (Nat.le_of_ble_eq_true rfl) (Nat.le_of_ble_eq_true rfl) ?_
  refine z_pP (n := 16) 6 rfl fpX7_34 dX7_init_56 (by decide) rfl (by decide) ?_
  refine z_aload_n dX7_init_59 rfl ?_
  refine z_bipush dX7_init_60 rfl (by decide) ?_
  refine z_mki (k := 75) dX7_init_62 ac_int rfl (by decide) (by decide) (Nat.le_of_ble_eq_true rfl) (Nat.le_of_ble_eq_true rfl) ?_
  refine z_pP (n := 16) 7 rfl fpX7_37 dX7_init_64 (by decide) rfl (by decide) ?_
  refine z_aload_n dX7_init_67 rfl ?_
  refine z_bipush dX7_init_68 rfl (by decide) ?_
  refine z_mki (k := 76) dX7_init_70 ac_int rfl (by decide) (by decide) (Nat.le_of_ble_eq_true rfl) (Nat.le_of_ble_eq_true rfl) ?_
  refine z_pP (n := 16) 8 rfl fpX7_40 dX7_init_72 (by decide) rfl (by decide) ?_
  refine z_aload_n dX7_init_75 rfl ?_
  refine z_sipush dX7_init_76 rfl (by decide) ?_
  refine z_mki (k := 77) dX7_init_79 ac_int rfl (by decide) (by decide) (Nat.le_of_ble_eq_true rfl) (Nat.le_of_ble_eq_true rfl) ?_
  refine z_pP (n := 16) 9 rfl fpX7_43 dX7_init_81 (by decide) rfl (by decide) ?_
  refine z_aload_n dX7_init_84 rfl ?_
  refine z_sipush dX7_init_85 rfl (by decide) ?_
  refine z_mki (k := 78) dX7_init_88 ac_int rfl (by decide) (by decide) (Nat.le_of_ble_eq_true rfl) (Nat.le_of_ble_eq_true rfl) ?_
  refine z_pP (n := 16) 10 rfl fpX7_46 dX7_init_90 (by decide) rfl (by decide) ?_
  refine z_iconst dX7_init_93 (by decide) ?_
  refine z_ist 1 dX7_init_94 rfl (Nat.le_of_ble_eq_true rfl) ?_
  try dsimp only [zs0, zsI, zsP, zsN, zsJ, zsS, zst2, Nat.reduceAdd]
  refine z_iload_n dX7_init_95 rfl ?_
  refine z_bipush dX7_init_96 rfl (by decide) ?_
  refine z_icmp_ge (tgt := 120) dX7_init_98 rfl (fun h => absurd h (by decide)) (fun _ => ?_)
  refine z_aload_n dX7_init_101 rfl ?_
  refine z_gP (n := 16) 5 rfl (r := 73) flX7_30 dX7_init_102 (by decide) rfl (by rfl) (by decide) ?_
  refine z_iload_n dX7_init_105 rfl ?_
  refine z_mko (k := 79) nwX7_28 dX7_init_106 rfl (by decide) (Nat.le_of_ble_eq_true rfl) (Nat.le_of_ble_eq_true rfl) ?_
  refine z_dup dX7_init_109 rfl ?_
  refine z_callI mlX7_49 dX7_init_110 (av := []) rfl rfl (Nat.le_of_ble_eq_true rfl) (i_X5_79 _ _) (Nat.le_of_ble_eq_true rfl) (Nat.le_of_ble_eq_true rfl) (Nat.le_of_ble_eq_true rfl) (Nat.le_of_ble_eq_true rfl) ?_
  rintro _ _ ⟨rfl, rfl⟩
  refine z_aast (n := 8) (nx := 4) dX7_init_113 (by decide) (by decide) (by decide) (by decide) ?_
  refine z_inc dX7_init_114 rfl (by decide) ?_
  try dsimp only [zs0, zsI, zsP, zsN, zsJ, zsS, zst2, Nat.reduceAdd]
  refine z_goto (tgt := 95) dX7_init_117 rfl ?_
  refine z_iload_n dX7_init_95 rfl ?_
  refine z_bipush dX7_init_96 rfl (by decide) ?_
  refine z_icmp_ge (tgt := 120) dX7_init_98 rfl (fun h => absurd h (by decide)) (fun _ => ?_)
  refine z_aload_n dX7_init_101 rfl ?_
  refine z_gP (n := 16) 5 rfl (r := 73) flX7_30 dX7_init_102 (by decide) rfl (by rfl) (by decide) ?_
  refine z_iload_n dX7_init_105 rfl ?_
  refine z_mko (k := 81) nwX7_28 dX7_init_106 rfl (by decide) (Nat.le_of_ble_eq_true rfl) (Nat.le_of_ble_eq_true rfl) ?_
  refine z_dup dX7_init_109 rfl ?_
  refine z_callI mlX7_49 dX7_init_110 (av := []) rfl rfl (Nat.le_of_ble_eq_true rfl) (i_X5_81 _ _) (Nat.le_of_ble_eq_true rfl) (Nat.le_of_ble_eq_true rfl) (Nat.le_of_ble_eq_true rfl) (Nat.le_of_ble_eq_true rfl) ?_
  rintro _ _ ⟨rfl, rfl⟩
  refine z_aast (n := 8) (nx := 4) dX7_init_113 (by decide) (by decide) (by decide) (by decide) ?_
  refine z_inc dX7_init_114 rfl (by decide) ?_
  try dsimp only [zs0, zsI, zsP, zsN, zsJ, zsS, zst2, Nat.reduceAdd]
  refine z_goto (tgt := 95) dX7_init_117 rfl ?_
  refine z_iload_n dX7_init_95 rfl ?_
  refine z_bipush dX7_init_96 rfl (by decide) ?_
  refine z_icmp_ge (tgt := 120) dX7_init_98 rfl (fun h => absurd h (by decide)) (fun _ => ?_)
  refine z_aload_n dX7_init_101 rfl ?_
  refine z_gP (n := 16) 5 rfl (r := 73) flX7_30 dX7_init_102 (by decide) rfl (by rfl) (by decide) ?_
  refine z_iload_n dX7_init_105 rfl ?_
  refine z_mko (k := 83) nwX7_28 dX7_init_106 rfl (by decide) (Nat.le_of_ble_eq_true rfl) (Nat.le_of_ble_eq_true rfl) ?_
  refine z_dup dX7_init_109 rfl ?_
  refine z_callI mlX7_49 dX7_init_110 (av := []) rfl rfl (Nat.le_of_ble_eq_true rfl) (i_X5_83 _ _) (Nat.le_of_ble_eq_true rfl) (Nat.le_of_ble_eq_true rfl) (Nat.le_of_ble_eq_true rfl) (Nat.le_of_ble_eq_true rfl) ?_
  rintro _ _ ⟨rfl, rfl⟩
  refine z_aast (n := 8) (nx := 4) dX7_init_113 (by decide) (by decide) (by decide) (by decide) ?_
  refine z_inc dX7_init_114 rfl (by decide) ?_
  try dsimp only [zs0, zsI, zsP, zsN, zsJ, zsS, zst2, Nat.reduceAdd]
  refine z_goto (tgt := 95) dX7_init_117 rfl ?_
  refine z_iload_n dX7_init_95 rfl ?_
  refine z_bipush dX7_init_96 rfl (by decide) ?_
  refine z_icmp_ge (tgt := 120) dX7_init_98 rfl (fun h => absurd h (by decide)) (fun _ => ?_)
  refine z_aload_n dX7_init_101 rfl ?_
  refine z_gP (n := 16) 5 rfl (r := 73) flX7_30 dX7_init_102 (by decide) rfl (by rfl) (by decide) ?_
  refine z_iload_n dX7_init_105 rfl ?_
  refine z_mko (k := 85) nwX7_28 dX7_init_106 rfl (by decide) (Nat.le_of_ble_eq_true rfl) (Nat.le_of_ble_eq_true rfl) ?_
  refine z_dup dX7_init_109 rfl ?_
  refine z_callI mlX7_49 dX7_init_110 (av := []) rfl rfl (Nat.le_of_ble_eq_true rfl) (i_X5_85 _ _) (Nat.le_of_ble_eq_true rfl) (Nat.le_of_ble_eq_true rfl) (Nat.le_of_ble_eq_true rfl) (Nat.le_of_ble_eq_true rfl) ?_
  rintro _ _ ⟨rfl, rfl⟩
  refine z_aast (n := 8) (nx := 4) dX7_init_113 (by decide) (by decide) (by decide) (by decide) ?_
  refine z_inc dX7_init_114 rfl (by decide) ?_
  try dsimp only [zs0, zsI, zsP, zsN, zsJ, zsS, zst2, Nat.reduceAdd]
  refine z_goto (tgt := 95) dX7_init_117 rfl ?_
  refine z_iload_n dX7_init_95 rfl ?_
  refine z_bipush dX7_init_96 rfl (by decide) ?_
  refine z_icmp_ge (tgt := 120) dX7_init_98 rfl (fun h => absurd h (by decide)) (fun _ => ?_)
  refine z_aload_n dX7_init_101 rfl ?_
  refine z_gP (n := 16) 5 rfl (r := 73) flX7_30 dX7_init_102 (by decide) rfl (by rfl) (by decide) ?_
  refine z_iload_n dX7_init_105 rfl ?_
  refine z_mko (k := 87) nwX7_28 dX7_init_106 rfl (by decide) (Nat.le_of_ble_eq_true rfl) (Nat.le_of_ble_eq_true rfl) ?_
  refine z_dup dX7_init_109 rfl ?_
  refine z_callI mlX7_49 dX7_init_110 (av := []) rfl rfl (Nat.le_of_ble_eq_true rfl) (i_X5_87 _ _) (Nat.le_of_ble_eq_true rfl) (Nat.le_of_ble_eq_true rfl) (Nat.le_of_ble_eq_true rfl) (Nat.le_of_ble_eq_true rfl) ?_
  rintro _ _ ⟨rfl, rfl⟩
  refine z_aast (n := 8) (nx := 4) dX7_init_113 (by decide) (by decide) (by decide) (by decide) ?_
  refine z_inc dX7_init_114 rfl (by decide) ?_
  try dsimp only [zs0, zsI, zsP, zsN, zsJ, zsS, zst2, Nat.reduceAdd]
  refine z_goto (tgt := 95) dX7_init_117 rfl ?_
  refine z_iload_n dX7_init_95 rfl ?_
  refine z_bipush dX7_init_96 rfl (by decide) ?_
  refine z_icmp_ge (tgt := 120) dX7_init_98 rfl (fun h => absurd h (by decide)) (fun _ => ?_)
  refine z_aload_n dX7_init_101 rfl ?_
  refine z_gP (n := 16) 5 rfl (r := 73) flX7_30 dX7_init_102 (by decide) rfl (by rfl) (by decide) ?_
  refine z_iload_n dX7_init_105 rfl ?_
  refine z_mko (k := 89) nwX7_28 dX7_init_106 rfl (by decide) (Nat.le_of_ble_eq_true rfl) (Nat.le_of_ble_eq_true rfl) ?_
  refine z_dup dX7_init_109 rfl ?_
  refine z_callI mlX7_49 dX7_init_110 (av := []) rfl rfl (Nat.le_of_ble_eq_true rfl) (i_X5_89 _ _) (Nat.le_of_ble_eq_true rfl) (Nat.le_of_ble_eq_true rfl) (Nat.le_of_ble_eq_true rfl) (Nat.le_of_ble_eq_true rfl) ?_
  rintro _ _ ⟨rfl, rfl⟩
  refine z_aast (n := 8) (nx := 4) dX7_init_113 (by decide) (by decide) (by decide) (by decide) ?_
  refine z_inc dX7_init_114 rfl (by decide) ?_
  try dsimp only [zs0, zsI, zsP, zsN, zsJ, zsS, zst2, Nat.reduceAdd]
  refine z_goto (tgt := 95) dX7_init_117 rfl ?_
  refine z_iload_n dX7_init_95 rfl ?_
  refine z_bipush dX7_init_96 rfl (by decide) ?_
  refine z_icmp_ge (tgt := 120) dX7_init_98 rfl (fun h => absurd h (by decide)) (fun _ => ?_)
  refine z_aload_n dX7_init_101 rfl ?_
  refine z_gP (n := 16) 5 rfl (r := 73) flX7_30 dX7_init_102 (by decide) rfl (by rfl) (by decide) ?_
  refine z_iload_n dX7_init_105 rfl ?_
  refine z_mko (k := 91) nwX7_28 dX7_init_106 rfl (by decide) (Nat.le_of_ble_eq_true rfl) (Nat.le_of_ble_eq_true rfl) ?_
  refine z_dup dX7_init_109 rfl ?_
  refine z_callI mlX7_49 dX7_init_110 (av := []) rfl rfl (Nat.le_of_ble_eq_true rfl) (i_X5_91 _ _) (Nat.le_of_ble_eq_true rfl) (Nat.le_of_ble_eq_true rfl) (Nat.le_of_ble_eq_true rfl) (Nat.le_of_ble_eq_true rfl) ?_
  rintro _ _ ⟨rfl, rfl⟩
  refine z_aast (n := 8) (nx := 4) dX7_init_113 (by decide) (by decide) (by decide) (by decide) ?_
  refine z_inc dX7_init_114 rfl (by decide) ?_
  try dsimp only [zs0, zsI, zsP, zsN, zsJ, zsS, zst2, Nat.reduceAdd]
  refine z_goto (tgt := 95) dX7_init_117 rfl ?_
  refine z_iload_n dX7_init_95 rfl ?_
  refine z_bipush dX7_init_96 rfl (by decide) ?_
  refine z_icmp_ge (tgt := 120) dX7_init_98 rfl (fun h => absurd h (by decide)) (fun _ => ?_)
  refine z_aload_n dX7_init_101 rfl ?_
  refine z_gP (n := 16) 5 rfl (r := 73) flX7_30 dX7_init_102 (by decide) rfl (by rfl) (by decide) ?_
  refine z_iload_n dX7_init_105 rfl ?_
  refine z_mko (k := 93) nwX7_28 dX7_init_106 rfl (by decide) (Nat.le_of_ble_eq_true rfl) (Nat.le_of_ble_eq_true rfl) ?_
  refine z_dup dX7_init_109 rfl ?_
  refine z_callI mlX7_49 dX7_init_110 (av := []) rfl rfl (Nat.le_of_ble_eq_true rfl) (i_X5_93 _ _) (Nat.le_of_ble_eq_true rfl) (Nat.le_of_ble_eq_true rfl) (Nat.le_of_ble_eq_true rfl) (Nat.le_of_ble_eq_true rfl) ?_
  rintro _ _ ⟨rfl, rfl⟩
  refine z_aast (n := 8) (nx := 4) dX7_init_113 (by decide) (by decide) (by decide) (by decide) ?_
  refine z_inc dX7_init_114 rfl (by decide) ?_
  try dsimp only [zs0, zsI, zsP, zsN, zsJ, zsS, zst2, Nat.reduceAdd]
  refine z_goto (tgt := 95) dX7_init_117 rfl ?_
  refine z_iload_n dX7_init_95 rfl ?_
  refine z_bipush dX7_init_96 rfl (by decide) ?_
  refine z_icmp_ge (tgt := 120) dX7_init_98 rfl (fun _ => ?_) (fun h => absurd (by decide) h)
  refine z_vret dX7_init_120 rfl rfl ?_
  exact ⟨rfl, rfl⟩
def w_X11_0 (m : zM) : zM := (zu (zu (w_X7_67 (zfill (zu (w_X7_39 (zfill (zu (w_X6_37 (zfill (zu (w_X1_33 (zfill (zu (w_X0_14 (zfill (zu (w_X4_11 (zfill (zu (w_X4_8 (zfill (zu (w_X10_6 (zfill (zu (w_X3_4 (zfill (zu (w_X8_3 (zfill (zu (w_X9_1 (zfill m 1 (zblank 9))) 0 0 (1)) 3 (zblank 8))) 0 1 (3)) 4 (zblank 3))) 0 2 (4)) 6 (zblank 10))) 0 3 (6)) 8 (zblank 4))) 0 4 (8)) 11 (zblank 4))) 0 5 (11)) 14 (zblank 0))) 0 6 (14)) 33 (zblank 1))) 0 7 (33)) 37 (zblank 6))) 0 8 (37)) 39 (zblank 7))) 0 9 (39)) 67 (zblank 7))) 0 10 (67)) 0 11 (0))
theorem i_X11_0 (d : Nat) (m : zM) : zR zX11_init (d + 4) [zP 0] m (eC 1) (eC 95) (fun r m' => r = none ∧ m' = w_X11_0 m) := by
  refine zR_go [zP 0] (by decide +kernel) (Nat.le_of_ble_eq_true rfl) rfl rfl ?_
  refine z_aload_n dX11_init_0 rfl ?_
  refine z_objInit dX11_init_1 oiX11 oi_inst oi_code rfl ?_
  refine z_aload_n dX11_init_4 rfl ?_
  refine z_mko (k := 1) nwX11_7 dX11_init_5 rfl (by decide) (Nat.le_of_ble_eq_true rfl) (Nat.le_of_ble_eq_true rfl) ?_
  refine z_dup dX11_init_8 rfl ?_
  refine z_callI mlX11_9 dX11_init_9 (av := []) rfl rfl (Nat.le_of_ble_eq_true rfl) (i_X9_1 _ _) (Nat.le_of_ble_eq_true rfl) (Nat.le_of_ble_eq_true rfl) (Nat.le_of_ble_eq_true rfl) (Nat.le_of_ble_eq_true rfl) ?_
  rintro _ _ ⟨rfl, rfl⟩
  refine z_pP (n := 12) 0 rfl fpX11_10 dX11_init_12 (by decide) rfl (by decide) ?_
  refine z_aload_n dX11_init_15 rfl ?_
  refine z_mko (k := 3) nwX11_16 dX11_init_16 rfl (by decide) (Nat.le_of_ble_eq_true rfl) (Nat.le_of_ble_eq_true rfl) ?_
  refine z_dup dX11_init_19 rfl ?_
  refine z_callI mlX11_18 dX11_init_20 (av := []) rfl rfl (Nat.le_of_ble_eq_true rfl) (i_X8_3 _ _) (Nat.le_of_ble_eq_true rfl) (Nat.le_of_ble_eq_true rfl) (Nat.le_of_ble_eq_true rfl) (Nat.le_of_ble_eq_true rfl) ?_
  rintro _ _ ⟨rfl, rfl⟩
  refine z_pP (n := 12) 1 rfl fpX11_19 dX11_init_23 (by decide) rfl (by decide) ?_
  refine z_aload_n dX11_init_26 rfl ?_
  refine z_mko (k := 4) nwX11_23 dX11_init_27 rfl (by decide) (Nat.le_of_ble_eq_true rfl) (Nat.le_of_ble_eq_true rfl) ?_
  refine z_dup dX11_init_30 rfl ?_
  refine z_callI mlX11_25 dX11_init_31 (av := []) rfl rfl (Nat.le_of_ble_eq_true rfl) (i_X3_4 _ _) (Nat.le_of_ble_eq_true rfl) (Nat.le_of_ble_eq_true rfl) (Nat.le_of_ble_eq_true rfl) (Nat.le_of_ble_eq_true rfl) ?_
  rintro _ _ ⟨rfl, rfl⟩
  refine z_pP (n := 12) 2 rfl fpX11_26 dX11_init_34 (by decide) rfl (by decide) ?_
  refine z_aload_n dX11_init_37 rfl ?_
  refine z_mko (k := 6) nwX11_30 dX11_init_38 rfl (by decide) (Nat.le_of_ble_eq_true rfl) (Nat.le_of_ble_eq_true rfl) ?_
  refine z_dup dX11_init_41 rfl ?_
  refine z_callI mlX11_32 dX11_init_42 (av := []) rfl rfl (Nat.le_of_ble_eq_true rfl) (i_X10_6 _ _) (Nat.le_of_ble_eq_true rfl) (Nat.le_of_ble_eq_true rfl) (Nat.le_of_ble_eq_true rfl) (Nat.le_of_ble_eq_true rfl) ?_
  rintro _ _ ⟨rfl, rfl⟩
  refine z_pP (n := 12) 3 rfl fpX11_33 dX11_init_45 (by decide) rfl (by decide) ?_
  refine z_aload_n dX11_init_48 rfl ?_
  refine z_mko (k := 8) nwX11_37 dX11_init_49 rfl (by decide) (Nat.le_of_ble_eq_true rfl) (Nat.le_of_ble_eq_true rfl) ?_
  refine z_dup dX11_init_52 rfl ?_
  refine z_callI mlX11_39 dX11_init_53 (av := []) rfl rfl (Nat.le_of_ble_eq_true rfl) (i_X4_8 _ _) (Nat.le_of_ble_eq_true rfl) (Nat.le_of_ble_eq_true rfl) (Nat.le_of_ble_eq_true rfl) (Nat.le_of_ble_eq_true rfl) ?_
  rintro _ _ ⟨rfl, rfl⟩
  refine z_pP (n := 12) 4 rfl fpX11_40 dX11_init_56 (by decide) rfl (by decide) ?_
  refine z_aload_n dX11_init_59 rfl ?_
  refine z_mko (k := 11) nwX11_37 dX11_init_60 rfl (by decide) (Nat.le_of_ble_eq_true rfl) (Nat.le_of_ble_eq_true rfl) ?_
  refine z_dup dX11_init_63 rfl ?_
  refine z_callI mlX11_39 dX11_init_64 (av := []) rfl rfl (Nat.le_of_ble_eq_true rfl) (i_X4_11 _ _) (Nat.le_of_ble_eq_true rfl) (Nat.le_of_ble_eq_true rfl) (Nat.le_of_ble_eq_true rfl) (Nat.le_of_ble_eq_true rfl) ?_
  rintro _ _ ⟨rfl, rfl⟩
  refine z_pP (n := 12) 5 rfl fpX11_44 dX11_init_67 (by decide) rfl (by decide) ?_
  refine z_aload_n dX11_init_70 rfl ?_
  refine z_mko (k := 14) nwX11_47 dX11_init_71 rfl (by decide) (Nat.le_of_ble_eq_true rfl) (Nat.le_of_ble_eq_true rfl) ?_
  refine z_dup dX11_init_74 rfl ?_
  refine z_callI mlX11_49 dX11_init_75 (av := []) rfl rfl (Nat.le_of_ble_eq_true rfl) (i_X0_14 _ _) (Nat.le_of_ble_eq_true rfl) (Nat.le_of_ble_eq_true rfl) (Nat.le_of_ble_eq_true rfl) (Nat.le_of_ble_eq_true rfl) ?_
  rintro _ _ ⟨rfl, rfl⟩
  refine z_pP (n := 12) 6 rfl fpX11_50 dX11_init_78 (by decide) rfl (by decide) ?_
  refine z_aload_n dX11_init_81 rfl ?_
  refine z_mko (k := 33) nwX11_54 dX11_init_82 rfl (by decide) (Nat.le_of_ble_eq_true rfl) (Nat.le_of_ble_eq_true rfl) ?_
  refine z_dup dX11_init_85 rfl ?_
  refine z_callI mlX11_56 dX11_init_86 (av := []) rfl rfl (Nat.le_of_ble_eq_true rfl) (i_X1_33 _ _) (Nat.le_of_ble_eq_true rfl) (Nat.le_of_ble_eq_true rfl) (Nat.le_of_ble_eq_true rfl) (Nat.le_of_ble_eq_true rfl) ?_
  rintro _ _ ⟨rfl, rfl⟩
  refine z_pP (n := 12) 7 rfl fpX11_57 dX11_init_89 (by decide) rfl (by decide) ?_
  refine z_aload_n dX11_init_92 rfl ?_
  refine z_mko (k := 37) nwX11_61 dX11_init_93 rfl (by decide) (Nat.le_of_ble_eq_true rfl) (Nat.le_of_ble_eq_true rfl) ?_
  refine z_dup dX11_init_96 rfl ?_
  refine z_callI mlX11_63 dX11_init_97 (av := []) rfl rfl (Nat.le_of_ble_eq_true rfl) (i_X6_37 _ _) (Nat.le_of_ble_eq_true rfl) (Nat.le_of_ble_eq_true rfl) (Nat.le_of_ble_eq_true rfl) (Nat.le_of_ble_eq_true rfl) ?_
  rintro _ _ ⟨rfl, rfl⟩
  refine z_pP (n := 12) 8 rfl fpX11_64 dX11_init_100 (by decide) rfl (by decide) ?_
  refine z_aload_n dX11_init_103 rfl ?_
  refine z_mko (k := 39) nwX11_68 dX11_init_104 rfl (by decide) (Nat.le_of_ble_eq_true rfl) (Nat.le_of_ble_eq_true rfl) ?_
  refine z_dup dX11_init_107 rfl ?_
  refine z_callI mlX11_70 dX11_init_108 (av := []) rfl rfl (Nat.le_of_ble_eq_true rfl) (i_X7_39 _ _) (Nat.le_of_ble_eq_true rfl) (Nat.le_of_ble_eq_true rfl) (Nat.le_of_ble_eq_true rfl) (Nat.le_of_ble_eq_true rfl) ?_
  rintro _ _ ⟨rfl, rfl⟩
  refine z_pP (n := 12) 9 rfl (fpX11_71 _) dX11_init_111 (by decide) rfl (by decide) ?_
  refine z_aload_n dX11_init_114 rfl ?_
  refine z_mko (k := 67) nwX11_68 dX11_init_115 rfl (by decide) (Nat.le_of_ble_eq_true rfl) (Nat.le_of_ble_eq_true rfl) ?_
  refine z_dup dX11_init_118 rfl ?_
  refine z_callI mlX11_70 dX11_init_119 (av := []) rfl rfl (Nat.le_of_ble_eq_true rfl) (i_X7_67 _ _) (Nat.le_of_ble_eq_true rfl) (Nat.le_of_ble_eq_true rfl) (Nat.le_of_ble_eq_true rfl) (Nat.le_of_ble_eq_true rfl) ?_
  rintro _ _ ⟨rfl, rfl⟩
  refine z_pP (n := 12) 10 rfl (fpX11_75 _) dX11_init_122 (by decide) rfl (by decide) ?_
  refine z_aload_n dX11_init_125 rfl ?_
  refine z_iconst dX11_init_126 (by decide) ?_
  refine z_pI (n := 12) 11 rfl (fpX11_78 _) dX11_init_127 (by decide) rfl ?_
  refine z_vret dX11_init_130 rfl rfl ?_
  exact ⟨rfl, rfl⟩
def w_X12_95 (m : zM) : zM := (zu (zfill (zu (zfill (zu (zu (zu (zu (zu (zu (zu (zu (zu (zfill (zu (zu (zu (zfill (zu (zfill (zu (zfill (zu (zfill (zu (zfill (zu (zfill (zu (zfill (zu (zfill (zu (zfill (zu (zfill (zu (zfill (zu (zfill (zu (zfill (zu (zfill (zu (zfill (zu (zfill (zu (zfill (zu (zfill (zu (zfill (zu (zfill (zu (zfill (zu (zfill m 96 (fun _ => 0)) 95 0 (96)) 97 (fun _ => 0)) 95 1 (97)) 98 (fun _ => 0)) 95 2 (98)) 99 (fun _ => 0)) 95 5 (99)) 100 (fun _ => 0)) 95 6 (100)) 101 (fun _ => 0)) 95 7 (101)) 102 (fun _ => 0)) 95 8 (102)) 103 (fun _ => 0)) 95 9 (103)) 104 (fun _ => 0)) 95 10 (104)) 105 (fun _ => 0)) 95 11 (105)) 106 (fun _ => 0)) 95 16 (106)) 107 (fun _ => 0)) 95 18 (107)) 108 (fun _ => 0)) 95 19 (108)) 109 (fun _ => 0)) 95 20 (109)) 110 (fun _ => 0)) 95 25 (110)) 111 (fun _ => 0)) 95 26 (111)) 112 (fun _ => 0)) 95 27 (112)) 113 (fun _ => 0)) 95 28 (113)) 114 (fun _ => 0)) 95 31 (114)) 115 (fun _ => 0)) 95 32 (115)) 116 (fun _ => 0)) 95 34 (116)) 117 (fun _ => 0)) 95 36 (117)) 95 38 (-1)) 95 39 (-1)) 118 (fun _ => 0)) 118 0 3369766) 118 1 357978) 118 2 315918) 118 3 11047) 118 4 9744) 118 5 209220123) 118 6 8399691) 118 7 318702192) 95 51 (118)) 119 (fun _ => 0)) 95 52 (119)) 120 (fun _ => 0)) 95 53 (120))
theorem i_X12_95 (d : Nat) (m : zM) : zR zX12_init (d + 2) [zP 95] m (eC 96) (eC 121) (fun r m' => r = none ∧ zfr [(a_worths, none)] (w_X12_95 m) m' ∧ ∀ i, 0 ≤ i → i < 800 → m' a_worths i = 1) := by
  refine zR_go [zP 95] (by decide +kernel) (Nat.le_of_ble_eq_true rfl) rfl rfl ?_
  refine z_aload_n dX12_init_0 rfl ?_
  refine z_objInit dX12_init_1 oiX12 oi_inst oi_code rfl ?_
  refine z_aload_n dX12_init_4 rfl ?_
  refine z_bipush dX12_init_5 rfl (by decide) ?_
  refine z_mki (k := 96) dX12_init_7 ac_int rfl (by decide) (by decide) (Nat.le_of_ble_eq_true rfl) (Nat.le_of_ble_eq_true rfl) ?_
  refine z_pP (n := 54) 0 rfl fpX12_7 dX12_init_9 (by decide) rfl (by decide) ?_
  refine z_aload_n dX12_init_12 rfl ?_
  refine z_bipush dX12_init_13 rfl (by decide) ?_
  refine z_mki (k := 97) dX12_init_15 ac_int rfl (by decide) (by decide) (Nat.le_of_ble_eq_true rfl) (Nat.le_of_ble_eq_true rfl) ?_
  refine z_pP (n := 54) 1 rfl fpX12_13 dX12_init_17 (by decide) rfl (by decide) ?_
  refine z_aload_n dX12_init_20 rfl ?_
  refine z_sipush dX12_init_21 rfl (by decide) ?_
  refine z_mki (k := 98) dX12_init_24 ac_int rfl (by decide) (by decide) (Nat.le_of_ble_eq_true rfl) (Nat.le_of_ble_eq_true rfl) ?_
  refine z_pP (n := 54) 2 rfl fpX12_16 dX12_init_26 (by decide) rfl (by decide) ?_
  refine z_aload_n dX12_init_29 rfl ?_
  refine z_bipush dX12_init_30 rfl (by decide) ?_
  refine z_mki (k := 99) dX12_init_32 ac_int rfl (by decide) (by decide) (Nat.le_of_ble_eq_true rfl) (Nat.le_of_ble_eq_true rfl) ?_
  refine z_pP (n := 54) 5 rfl fpX12_19 dX12_init_34 (by decide) rfl (by decide) ?_
  refine z_aload_n dX12_init_37 rfl ?_
  refine z_bipush dX12_init_38 rfl (by decide) ?_
  refine z_mki (k := 100) dX12_init_40 ac_int rfl (by decide) (by decide) (Nat.le_of_ble_eq_true rfl) (Nat.le_of_ble_eq_true rfl) ?_
  refine z_pP (n := 54) 6 rfl fpX12_22 dX12_init_42 (by decide) rfl (by decide) ?_
  refine z_aload_n dX12_init_45 rfl ?_
  refine z_ldc dX12_init_46 kcX12_25 (by decide) ?_
  refine z_mki (k := 101) dX12_init_48 ac_int rfl (by decide) (by decide) (Nat.le_of_ble_eq_true rfl) (Nat.le_of_ble_eq_true rfl) ?_
  refine z_pP (n := 54) 7 rfl fpX12_26 dX12_init_50 (by decide) rfl (by decide) ?_
  refine z_aload_n dX12_init_53 rfl ?_
  refine z_sipush dX12_init_54 rfl (by decide) ?_
  refine z_mki (k := 102) dX12_init_57 ac_int rfl (by decide) (by decide) (Nat.le_of_ble_eq_true rfl) (Nat.le_of_ble_eq_true rfl) ?_
  refine z_pP (n := 54) 8 rfl fpX12_29 dX12_init_59 (by decide) rfl (by decide) ?_
  refine z_aload_n dX12_init_62 rfl ?_
  refine z_sipush dX12_init_63 rfl (by decide) ?_
  refine z_mki (k := 103) dX12_init_66 ac_int rfl (by decide) (by decide) (Nat.le_of_ble_eq_true rfl) (Nat.le_of_ble_eq_true rfl) ?_
  refine z_pP (n := 54) 9 rfl fpX12_32 dX12_init_68 (by decide) rfl (by decide) ?_
  refine z_aload_n dX12_init_71 rfl ?_
  refine z_sipush dX12_init_72 rfl (by decide) ?_
  refine z_mki (k := 104) dX12_init_75 ac_int rfl (by decide) (by decide) (Nat.le_of_ble_eq_true rfl) (Nat.le_of_ble_eq_true rfl) ?_
  refine z_pP (n := 54) 10 rfl fpX12_35 dX12_init_77 (by decide) rfl (by decide) ?_
  refine z_aload_n dX12_init_80 rfl ?_
  refine z_sipush dX12_init_81 rfl (by decide) ?_
  refine z_mki (k := 105) dX12_init_84 ac_int rfl (by decide) (by decide) (Nat.le_of_ble_eq_true rfl) (Nat.le_of_ble_eq_true rfl) ?_
  refine z_pP (n := 54) 11 rfl fpX12_38 dX12_init_86 (by decide) rfl (by decide) ?_
  refine z_aload_n dX12_init_89 rfl ?_
  refine z_bipush dX12_init_90 rfl (by decide) ?_
  refine z_mki (k := 106) dX12_init_92 ac_int rfl (by decide) (by decide) (Nat.le_of_ble_eq_true rfl) (Nat.le_of_ble_eq_true rfl) ?_
  refine z_pP (n := 54) 16 rfl fpX12_41 dX12_init_94 (by decide) rfl (by decide) ?_
  refine z_aload_n dX12_init_97 rfl ?_
  refine z_bipush dX12_init_98 rfl (by decide) ?_
  refine z_mki (k := 107) dX12_init_100 ac_int rfl (by decide) (by decide) (Nat.le_of_ble_eq_true rfl) (Nat.le_of_ble_eq_true rfl) ?_
  refine z_pP (n := 54) 18 rfl fpX12_44 dX12_init_102 (by decide) rfl (by decide) ?_
  refine z_aload_n dX12_init_105 rfl ?_
  refine z_bipush dX12_init_106 rfl (by decide) ?_
  refine z_mki (k := 108) dX12_init_108 ac_int rfl (by decide) (by decide) (Nat.le_of_ble_eq_true rfl) (Nat.le_of_ble_eq_true rfl) ?_
  refine z_pP (n := 54) 19 rfl fpX12_47 dX12_init_110 (by decide) rfl (by decide) ?_
  refine z_aload_n dX12_init_113 rfl ?_
  refine z_bipush dX12_init_114 rfl (by decide) ?_
  refine z_mki (k := 109) dX12_init_116 ac_int rfl (by decide) (by decide) (Nat.le_of_ble_eq_true rfl) (Nat.le_of_ble_eq_true rfl) ?_
  refine z_pP (n := 54) 20 rfl fpX12_50 dX12_init_118 (by decide) rfl (by decide) ?_
  refine z_aload_n dX12_init_121 rfl ?_
  refine z_sipush dX12_init_122 rfl (by decide) ?_
  refine z_mkl (k := 110) dX12_init_125 ac_long rfl (by decide) (by decide) (Nat.le_of_ble_eq_true rfl) (Nat.le_of_ble_eq_true rfl) ?_
  refine z_pP (n := 54) 25 rfl fpX12_53 dX12_init_127 (by decide) rfl (by decide) ?_
  refine z_aload_n dX12_init_130 rfl ?_
  refine z_sipush dX12_init_131 rfl (by decide) ?_
  refine z_mkl (k := 111) dX12_init_134 ac_long rfl (by decide) (by decide) (Nat.le_of_ble_eq_true rfl) (Nat.le_of_ble_eq_true rfl) ?_
  refine z_pP (n := 54) 26 rfl fpX12_57 dX12_init_136 (by decide) rfl (by decide) ?_
  refine z_aload_n dX12_init_139 rfl ?_
  refine z_sipush dX12_init_140 rfl (by decide) ?_
  refine z_mkl (k := 112) dX12_init_143 ac_long rfl (by decide) (by decide) (Nat.le_of_ble_eq_true rfl) (Nat.le_of_ble_eq_true rfl) ?_
  refine z_pP (n := 54) 27 rfl fpX12_60 dX12_init_145 (by decide) rfl (by decide) ?_
  refine z_aload_n dX12_init_148 rfl ?_
  refine z_sipush dX12_init_149 rfl (by decide) ?_
  refine z_mkl (k := 113) dX12_init_152 ac_long rfl (by decide) (by decide) (Nat.le_of_ble_eq_true rfl) (Nat.le_of_ble_eq_true rfl) ?_
  refine z_pP (n := 54) 28 rfl fpX12_63 dX12_init_154 (by decide) rfl (by decide) ?_
  refine z_aload_n dX12_init_157 rfl ?_
  refine z_bipush dX12_init_158 rfl (by decide) ?_
  refine z_mki (k := 114) dX12_init_160 ac_int rfl (by decide) (by decide) (Nat.le_of_ble_eq_true rfl) (Nat.le_of_ble_eq_true rfl) ?_
  refine z_pP (n := 54) 31 rfl fpX12_66 dX12_init_162 (by decide) rfl (by decide) ?_
  refine z_aload_n dX12_init_165 rfl ?_
  refine z_iconst dX12_init_166 (by decide) ?_
  refine z_mki (k := 115) dX12_init_167 ac_int rfl (by decide) (by decide) (Nat.le_of_ble_eq_true rfl) (Nat.le_of_ble_eq_true rfl) ?_
  refine z_pP (n := 54) 32 rfl fpX12_69 dX12_init_169 (by decide) rfl (by decide) ?_
  refine z_aload_n dX12_init_172 rfl ?_
  refine z_bipush dX12_init_173 rfl (by decide) ?_
  refine z_mki (k := 116) dX12_init_175 ac_int rfl (by decide) (by decide) (Nat.le_of_ble_eq_true rfl) (Nat.le_of_ble_eq_true rfl) ?_
  refine z_pP (n := 54) 34 rfl fpX12_72 dX12_init_177 (by decide) rfl (by decide) ?_
  refine z_aload_n dX12_init_180 rfl ?_
  refine z_sipush dX12_init_181 rfl (by decide) ?_
  refine z_mkb (k := 117) dX12_init_184 ac_byte rfl (by decide) (by decide) (Nat.le_of_ble_eq_true rfl) (Nat.le_of_ble_eq_true rfl) ?_
  refine z_pP (n := 54) 36 rfl fpX12_75 dX12_init_186 (by decide) rfl (by decide) ?_
  refine z_aload_n dX12_init_189 rfl ?_
  refine z_iconst dX12_init_190 (by decide) ?_
  refine z_pI (n := 54) 38 rfl (fpX12_79 _) dX12_init_191 (by decide) rfl ?_
  refine z_aload_n dX12_init_194 rfl ?_
  refine z_iconst dX12_init_195 (by decide) ?_
  refine z_pI (n := 54) 39 rfl (fpX12_83 _) dX12_init_196 (by decide) rfl ?_
  refine z_aload_n dX12_init_199 rfl ?_
  refine z_bipush dX12_init_200 rfl (by decide) ?_
  refine z_mkl (k := 118) dX12_init_202 ac_long rfl (by decide) (by decide) (Nat.le_of_ble_eq_true rfl) (Nat.le_of_ble_eq_true rfl) ?_
  refine z_dup dX12_init_204 rfl ?_
  refine z_iconst dX12_init_205 (by decide) ?_
  refine z_ldc2 dX12_init_206 kcX12_86 (by decide) ?_
  refine z_last (n := 8) dX12_init_209 (by decide) (by decide) (by decide) ?_
  refine z_dup dX12_init_210 rfl ?_
  refine z_iconst dX12_init_211 (by decide) ?_
  refine z_ldc2 dX12_init_212 kcX12_88 (by decide) ?_
  refine z_last (n := 8) dX12_init_215 (by decide) (by decide) (by decide) ?_
  refine z_dup dX12_init_216 rfl ?_
  refine z_iconst dX12_init_217 (by decide) ?_
  refine z_ldc2 dX12_init_218 kcX12_90 (by decide) ?_
  refine z_last (n := 8) dX12_init_221 (by decide) (by decide) (by decide) ?_
  refine z_dup dX12_init_222 rfl ?_
  refine z_iconst dX12_init_223 (by decide) ?_
  refine z_ldc2 dX12_init_224 kcX12_92 (by decide) ?_
  refine z_last (n := 8) dX12_init_227 (by decide) (by decide) (by decide) ?_
  refine z_dup dX12_init_228 rfl ?_
  refine z_iconst dX12_init_229 (by decide) ?_
  refine z_ldc2 dX12_init_230 kcX12_94 (by decide) ?_
  refine z_last (n := 8) dX12_init_233 (by decide) (by decide) (by decide) ?_
  refine z_dup dX12_init_234 rfl ?_
  refine z_iconst dX12_init_235 (by decide) ?_
  refine z_ldc2 dX12_init_236 kcX12_96 (by decide) ?_
  refine z_last (n := 8) dX12_init_239 (by decide) (by decide) (by decide) ?_
  refine z_dup dX12_init_240 rfl ?_
  refine z_bipush dX12_init_241 rfl (by decide) ?_
  refine z_ldc2 dX12_init_243 kcX12_98 (by decide) ?_
  refine z_last (n := 8) dX12_init_246 (by decide) (by decide) (by decide) ?_
  refine z_dup dX12_init_247 rfl ?_
  refine z_bipush dX12_init_248 rfl (by decide) ?_
  refine z_ldc2 dX12_init_250 kcX12_100 (by decide) ?_
  refine z_last (n := 8) dX12_init_253 (by decide) (by decide) (by decide) ?_
  refine z_pP (n := 54) 51 rfl fpX12_102 dX12_init_254 (by decide) rfl (by decide) ?_
  refine z_aload_n dX12_init_257 rfl ?_
  refine z_bipush dX12_init_258 rfl (by decide) ?_
  refine z_mki (k := 119) dX12_init_260 ac_int rfl (by decide) (by decide) (Nat.le_of_ble_eq_true rfl) (Nat.le_of_ble_eq_true rfl) ?_
  refine z_pP (n := 54) 52 rfl fpX12_105 dX12_init_262 (by decide) rfl (by decide) ?_
  refine z_aload_n dX12_init_265 rfl ?_
  refine z_bipush dX12_init_266 rfl (by decide) ?_
  refine z_mki (k := 120) dX12_init_268 ac_int rfl (by decide) (by decide) (Nat.le_of_ble_eq_true rfl) (Nat.le_of_ble_eq_true rfl) ?_
  refine z_pP (n := 54) 53 rfl fpX12_108 dX12_init_270 (by decide) rfl (by decide) ?_
  refine z_aload_n dX12_init_273 rfl ?_
  obtain ⟨m1, em⟩ : ∃ x, x = w_X12_95 m := ⟨_, rfl⟩
  refine zA_m (em.symm) ?_
  have hm : ptM m1 := by rw [em]; exact List.forall_mem_cons.mpr ⟨rfl, List.forall_mem_cons.mpr ⟨rfl, List.forall_mem_cons.mpr ⟨rfl, List.forall_mem_cons.mpr ⟨rfl, List.forall_mem_cons.mpr ⟨rfl, List.forall_mem_cons.mpr ⟨rfl, List.forall_mem_cons.mpr ⟨rfl, List.forall_mem_cons.mpr ⟨rfl, List.forall_mem_cons.mpr ⟨rfl, List.forall_mem_cons.mpr ⟨rfl, List.forall_mem_cons.mpr ⟨rfl, List.forall_mem_cons.mpr ⟨rfl, List.forall_mem_cons.mpr ⟨rfl, List.forall_mem_cons.mpr ⟨rfl, List.forall_mem_cons.mpr ⟨rfl, List.forall_mem_cons.mpr ⟨rfl, List.forall_mem_cons.mpr ⟨rfl, List.forall_mem_cons.mpr ⟨rfl, List.forall_mem_cons.mpr ⟨rfl, List.forall_mem_cons.mpr ⟨rfl, List.forall_mem_cons.mpr ⟨rfl, List.forall_mem_cons.mpr ⟨rfl, List.forall_mem_cons.mpr ⟨rfl, List.forall_mem_cons.mpr ⟨rfl, List.forall_mem_cons.mpr ⟨rfl, fun _ h => absurd h List.not_mem_nil⟩⟩⟩⟩⟩⟩⟩⟩⟩⟩⟩⟩⟩⟩⟩⟩⟩⟩⟩⟩⟩⟩⟩⟩⟩
  refine z_callV mlX12_111 dX12_init_274 (sh_M sC121) (av := []) rfl rfl (Nat.le_of_ble_eq_true rfl) (r_unworths _ sC121 hm) (Nat.le_refl _) (Nat.le_refl _) (Nat.le_refl _) (Nat.le_refl _) ?_
  rintro _ m2 ⟨rfl, f2, o2⟩
  refine z_vret dX12_init_277 rfl rfl ?_
  exact ⟨rfl, em ▸ f2, o2⟩
