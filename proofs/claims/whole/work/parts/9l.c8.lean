section CJ
variable {y : zY} {d : Nat} {E0 E' E : zE} {P : Option zV → zM → Prop} {pc : Nat} {L S : List zV} {m : zM}
theorem z_ldcw {n : Int} {i : Nat} (hd : decode y.2.1 pc = .ok (.ldc_w i, 3)) (hw : Cond.constant y.1.cls i (Int32.ofInt n) ∈ zgood) (hn : -2147483648 ≤ n ∧ n < 2147483648) (k : zA y d E0 E' P (pc + 3) L (zI n :: S) m E) : zA y d E0 E' P pc L S m E := by
  intro G p l e s mid args below meth c H locs ls cx hH hS hl hL okL okS g1 g2
  have kk := k G p l e s mid args below meth c H locs ls cx hH hS hl hL okL (zok_p (show zok (zI n) from hn) okS) g1 g2
  exact lv_ldcw cx.1 cx.2.1 cx.2.2.2.2.1 (cx.2.2.2.2.2.1 _ hw) hd kk
theorem z_min {idx : Nat} {a b : Int} (hm : Cond.methodLink y.1.cls idx yJ9_min_7cf53 ∈ zgood) (hd : decode y.2.1 pc = .ok (.invokestatic idx, 3)) (hW : (S.map zcat).sum ≤ 8) (q1 : E.2.1 ≤ E'.2.1) (q2 : E.2.2 ≤ E'.2.2) (k : zA y (d + 1) E0 E' P (pc + 3) L (zI (if b < a then b else a) :: S) m E) : zA y (d + 1) E0 E' P pc L (zI b :: zI a :: S) m E := by
  intro G p l e s mid args below meth c H locs ls cx hH hS hl hL okL okS g1 g2
  have ra : zr32 a := zok_h (zok_t okS)
  have rb : zr32 b := zok_h okS
  have kk := k G p l e s mid args below meth c H locs ls cx hH hS hl hL okL (zok_p (show zok (zI _) by show zr32 (if b < a then b else a); split <;> assumption) (zok_t (zok_t okS))) g1 g2
  have hs := zcat_le G S
  refine va_mmin cx.1 cx.2.1 (by rw [cx.2.2.1]; exact hl.1.symm) cx.2.2.2.2.1 (cx.2.2.2.2.2.1 _ hm) (cx.2.2.2.2.2.1 _ mbJ9_min_7cf53.2) (cx.2.2.2.2.2.1 _ mbJ9_min_7cf53.1.2.1) (cx.2.2.2.2.2.1 _ mbJ9_min_7cf53.1.1) (by show 1 ≤ d + 1; omega) (by show _ ≤ 64 * (d + 1); omega) (by show _ ≤ E'.2.1 - E0.2.1; omega) (by show _ ≤ E'.2.2 - E0.2.2; omega) hd ?_
  have e : (if Int32.ofInt b < Int32.ofInt a then Int32.ofInt b else Int32.ofInt a) = Int32.ofInt (if b < a then b else a) := by
    by_cases h : b < a
    · rw [if_pos h, if_pos ((z32_lt rb ra).mpr h)]
    · rw [if_neg h, if_neg (fun g => h ((z32_lt rb ra).mp g))]
  rw [e]
  exact kk
theorem z_max {idx : Nat} {a b : Int} (hm : Cond.methodLink y.1.cls idx yJ9_max_7cf53 ∈ zgood) (hd : decode y.2.1 pc = .ok (.invokestatic idx, 3)) (hW : (S.map zcat).sum ≤ 8) (q1 : E.2.1 ≤ E'.2.1) (q2 : E.2.2 ≤ E'.2.2) (k : zA y (d + 1) E0 E' P (pc + 3) L (zI (if a < b then b else a) :: S) m E) : zA y (d + 1) E0 E' P pc L (zI b :: zI a :: S) m E := by
  intro G p l e s mid args below meth c H locs ls cx hH hS hl hL okL okS g1 g2
  have ra : zr32 a := zok_h (zok_t okS)
  have rb : zr32 b := zok_h okS
  have kk := k G p l e s mid args below meth c H locs ls cx hH hS hl hL okL (zok_p (show zok (zI _) by show zr32 (if a < b then b else a); split <;> assumption) (zok_t (zok_t okS))) g1 g2
  have hs := zcat_le G S
  refine va_mmax cx.1 cx.2.1 (by rw [cx.2.2.1]; exact hl.1.symm) cx.2.2.2.2.1 (cx.2.2.2.2.2.1 _ hm) (cx.2.2.2.2.2.1 _ mbJ9_max_7cf53.2) (cx.2.2.2.2.2.1 _ mbJ9_max_7cf53.1.2.1) (cx.2.2.2.2.2.1 _ mbJ9_max_7cf53.1.1) (by show 1 ≤ d + 1; omega) (by show _ ≤ 64 * (d + 1); omega) (by show _ ≤ E'.2.1 - E0.2.1; omega) (by show _ ≤ E'.2.2 - E0.2.2; omega) hd ?_
  have e : (if Int32.ofInt a < Int32.ofInt b then Int32.ofInt b else Int32.ofInt a) = Int32.ofInt (if a < b then b else a) := by
    by_cases h : a < b
    · rw [if_pos h, if_pos ((z32_lt ra rb).mpr h)]
    · rw [if_neg h, if_neg (fun g => h ((z32_lt ra rb).mp g))]
  rw [e]
  exact kk
theorem z_minL {idx : Nat} {a b : Int} (hm : Cond.methodLink y.1.cls idx yJ9_min_f86c9 ∈ zgood) (hd : decode y.2.1 pc = .ok (.invokestatic idx, 3)) (hW : (S.map zcat).sum ≤ 8) (q1 : E.2.1 ≤ E'.2.1) (q2 : E.2.2 ≤ E'.2.2) (k : zA y (d + 1) E0 E' P (pc + 3) L (zJ (if b < a then b else a) :: S) m E) : zA y (d + 1) E0 E' P pc L (zJ b :: zJ a :: S) m E := by
  intro G p l e s mid args below meth c H locs ls cx hH hS hl hL okL okS g1 g2
  have ra : zr64 a := zok_h (zok_t okS)
  have rb : zr64 b := zok_h okS
  have kk := k G p l e s mid args below meth c H locs ls cx hH hS hl hL okL (zok_p (show zok (zJ _) by show zr64 (if b < a then b else a); split <;> assumption) (zok_t (zok_t okS))) g1 g2
  have hs := zcat_le G S
  refine va_mmin_long cx.1 cx.2.1 (by rw [cx.2.2.1]; exact hl.1.symm) cx.2.2.2.2.1 (cx.2.2.2.2.2.1 _ hm) (cx.2.2.2.2.2.1 _ mbJ9_min_f86c9.2) (cx.2.2.2.2.2.1 _ mbJ9_min_f86c9.1.2.1) (cx.2.2.2.2.2.1 _ mbJ9_min_f86c9.1.1) (by show 1 ≤ d + 1; omega) (by show _ ≤ 64 * (d + 1); omega) (by show _ ≤ E'.2.1 - E0.2.1; omega) (by show _ ≤ E'.2.2 - E0.2.2; omega) hd ?_
  have e : (if Int64.ofInt b < Int64.ofInt a then Int64.ofInt b else Int64.ofInt a) = Int64.ofInt (if b < a then b else a) := by
    by_cases h : b < a
    · rw [if_pos h, if_pos ((z64_lt rb ra).mpr h)]
    · rw [if_neg h, if_neg (fun g => h ((z64_lt rb ra).mp g))]
  rw [e]
  exact kk
end CJ
def bu (x k : Int) : Int := ((Int32.ofInt x).toUInt32 >>> ((Int32.ofInt k).toUInt32 &&& Int32.toUInt32 31)).toInt32.toInt
def bc1 (a : Int) : Int := w32 (a - zand (bu a 1) 1431655765)
def bc2 (x : Int) : Int := w32 (zand x 858993459 + zand (bu x 2) 858993459)
def bc3 (x : Int) : Int := zand (w32 (x + bu x 4)) 252645135
def bc4 (x : Int) : Int := w32 (x + bu x 8)
def bc5 (x : Int) : Int := w32 (x + bu x 16)
theorem by64 {P : Nat → Prop} (h : ∀ a, a < 64 → ∀ b, b < 64 → P (64 * a + b)) : ∀ x, x < 4096 → P x := fun x hx => by
  have := h (x / 64) (by omega) (x % 64) (by omega)
  rwa [show 64 * (x / 64) + x % 64 = x by omega] at this
theorem bc_is : ∀ a : Nat, a < 4096 → zand (bc5 (bc4 (bc3 (bc2 (bc1 (a : Int)))))) 63 = ((sPop 12 a : Nat) : Int) := by64 (by decide +kernel)
def rm (n : Int) : Int := if n ≤ 16 then 16 else if n ≤ 64 then 64 else if n ≤ 256 then 256 else if n ≤ 1024 then 1024 else if n ≤ 4096 then 4096 else 10395
/-- the number of the lowest bit -/
def lo (a : Nat) : Nat := if a.testBit 0 then 0 else if a.testBit 1 then 1 else if a.testBit 2 then 2 else if a.testBit 3 then 3 else if a.testBit 4 then 4 else if a.testBit 5 then 5 else if a.testBit 6 then 6 else if a.testBit 7 then 7 else if a.testBit 8 then 8 else if a.testBit 9 then 9 else if a.testBit 10 then 10 else 11
theorem lb_12 : ∀ a : Nat, a < 4096 → a ≠ 0 → zand (a : Int) (-(a : Int)) = ((2 ^ lo a : Nat) : Int) ∧ 2 ^ lo a < 4096 ∧ ((sPop 12 (2 ^ lo a - 1) : Nat) : Int) = ((lo a : Nat) : Int) := by64 (by decide +kernel)
theorem lo_12 : ∀ a : Nat, a < 4096 → a ≠ 0 → lo a < 12 ∧ a.testBit (lo a) = true ∧ a &&& (a - 1) = a ^^^ (a &&& 2 ^ lo a) := by64 (by decide +kernel)
theorem lo_min {a : Nat} (ha : a < 4096) (h0 : a ≠ 0) {i : Nat} (hi : i < lo a) : a.testBit i = false := by
  have key : ∀ a : Nat, a < 4096 → ∀ i, i < 12 → i < lo a → a.testBit i = false := by64 (by decide +kernel)
  exact key a ha i (by have := (lo_12 a ha h0).1; omega) hi
theorem c_bitCount (d : Nat) {E : zE} {m : zM} (a : Nat) (ha : a < 4096) : zR zJ6_bitCount_0f7a4 (d) [zI (a : Int)] m E E (fun r m' => r = some (zI ((sPop 12 a : Nat))) ∧ m = m') := by
  refine zR_go [zI (a : Int)] (by decide +kernel) (Nat.le_of_ble_eq_true rfl) rfl rfl ?_
  refine z_iload_n dJ6_bitCount_0f7a4_0 rfl ?_
  refine z_iload_n dJ6_bitCount_0f7a4_1 rfl ?_
  refine z_iconst dJ6_bitCount_0f7a4_2 (by decide) ?_
  refine z_iushr dJ6_bitCount_0f7a4_3 ?_
  refine z_ldcw dJ6_bitCount_0f7a4_4 kcJ6_265 (by decide) ?_
  refine z_iand dJ6_bitCount_0f7a4_7 ?_
  refine z_isub dJ6_bitCount_0f7a4_8 ?_
  refine z_ist 0 dJ6_bitCount_0f7a4_9 rfl (Nat.le_of_ble_eq_true rfl) ?_
  refine zA_eq (L' := [zI (bc1 (a : Int))]) (S' := []) rfl rfl rfl ?_
  refine z_iload_n dJ6_bitCount_0f7a4_10 rfl ?_
  refine z_ldcw dJ6_bitCount_0f7a4_11 kcJ6_266 (by decide) ?_
  refine z_iand dJ6_bitCount_0f7a4_14 ?_
  refine z_iload_n dJ6_bitCount_0f7a4_15 rfl ?_
  refine z_iconst dJ6_bitCount_0f7a4_16 (by decide) ?_
  refine z_iushr dJ6_bitCount_0f7a4_17 ?_
  refine z_ldcw dJ6_bitCount_0f7a4_18 kcJ6_266 (by decide) ?_
  refine z_iand dJ6_bitCount_0f7a4_21 ?_
  refine z_iadd dJ6_bitCount_0f7a4_22 ?_
  refine z_ist 0 dJ6_bitCount_0f7a4_23 rfl (Nat.le_of_ble_eq_true rfl) ?_
  refine zA_eq (L' := [zI (bc2 (bc1 (a : Int)))]) (S' := []) rfl rfl rfl ?_
  refine z_iload_n dJ6_bitCount_0f7a4_24 rfl ?_
  refine z_iload_n dJ6_bitCount_0f7a4_25 rfl ?_
  refine z_iconst dJ6_bitCount_0f7a4_26 (by decide) ?_
  refine z_iushr dJ6_bitCount_0f7a4_27 ?_
  refine z_iadd dJ6_bitCount_0f7a4_28 ?_
  refine z_ldcw dJ6_bitCount_0f7a4_29 kcJ6_267 (by decide) ?_
  refine z_iand dJ6_bitCount_0f7a4_32 ?_
  refine z_ist 0 dJ6_bitCount_0f7a4_33 rfl (Nat.le_of_ble_eq_true rfl) ?_
  refine zA_eq (L' := [zI (bc3 (bc2 (bc1 (a : Int))))]) (S' := []) rfl rfl rfl ?_
  refine z_iload_n dJ6_bitCount_0f7a4_34 rfl ?_
  refine z_iload_n dJ6_bitCount_0f7a4_35 rfl ?_
  refine z_bipush dJ6_bitCount_0f7a4_36 rfl (by decide) ?_
  refine z_iushr dJ6_bitCount_0f7a4_38 ?_
  refine z_iadd dJ6_bitCount_0f7a4_39 ?_
  refine z_ist 0 dJ6_bitCount_0f7a4_40 rfl (Nat.le_of_ble_eq_true rfl) ?_
  refine zA_eq (L' := [zI (bc4 (bc3 (bc2 (bc1 (a : Int)))))]) (S' := []) rfl rfl rfl ?_
  refine z_iload_n dJ6_bitCount_0f7a4_41 rfl ?_
  refine z_iload_n dJ6_bitCount_0f7a4_42 rfl ?_
  refine z_bipush dJ6_bitCount_0f7a4_43 rfl (by decide) ?_
  refine z_iushr dJ6_bitCount_0f7a4_45 ?_
  refine z_iadd dJ6_bitCount_0f7a4_46 ?_
  refine z_ist 0 dJ6_bitCount_0f7a4_47 rfl (Nat.le_of_ble_eq_true rfl) ?_
  refine zA_eq (L' := [zI (bc5 (bc4 (bc3 (bc2 (bc1 (a : Int))))))]) (S' := []) rfl rfl rfl ?_
  refine z_iload_n dJ6_bitCount_0f7a4_48 rfl ?_
  refine z_bipush dJ6_bitCount_0f7a4_49 rfl (by decide) ?_
  refine z_iand dJ6_bitCount_0f7a4_51 ?_
  try dsimp only [zs0, zsI, zsP, zsN, zsJ, zsS, zst2, Nat.reduceAdd]
  refine z_iret dJ6_bitCount_0f7a4_52 rfl rfl ?_
  exact ⟨by rw [← bc_is a ha], rfl⟩

theorem c_leastOf (d : Nat) {E : zE} {m : zM} (a : Nat) (ha : a < 4096) (h0 : a ≠ 0) : zR zX11_leastOf (d + 1) [zI (a : Nat)] m E E (fun r m' => r = some (zI ((lo a : Nat))) ∧ m = m') := by
  refine zR_go [zI (a : Nat)] (by decide +kernel) (Nat.le_of_ble_eq_true rfl) rfl rfl ?_
  refine z_iload_n dX11_leastOf_0 rfl ?_
  refine z_iload_n dX11_leastOf_1 rfl ?_
  refine z_neg dX11_leastOf_2 (by omega) ?_
  refine z_iand dX11_leastOf_3 ?_
  rw [(lb_12 a ha h0).1]
  refine z_iconst dX11_leastOf_4 (by decide) ?_
  refine z_sub dX11_leastOf_5 (by have := (lb_12 a ha h0).2.1; have := Nat.two_pow_pos (lo a); omega) ?_
  rw [show ((2 ^ lo a : Nat) : Int) - 1 = ((2 ^ lo a - 1 : Nat) : Int) by have := Nat.two_pow_pos (lo a); omega]
  refine z_callS mlX11_366 dX11_leastOf_6 (av := [_]) rfl rfl (Nat.le_of_ble_eq_true rfl) (c_bitCount _ (2 ^ lo a - 1) (by have := (lb_12 a ha h0).2.1; omega)) (Nat.le_refl _) (Nat.le_refl _) (Nat.le_refl _) (Nat.le_refl _) ?_
  rintro _ _ ⟨rfl, rfl⟩
  refine z_iret dX11_leastOf_9 rfl rfl ?_
  exact ⟨by rw [(lb_12 a ha h0).2.2], rfl⟩

theorem l_room5 (d : Nat) {E : zE} {m : zM} {P : Option zV → zM → Prop} (n : Int) (hn : n ≤ 10395) (h90 : 4096 < n) (hP : P (some (zI (rm n))) m) : zA zX11_roomFor (d + 1) E E P 5 [zI n, zI 16384, zI 5] [] m E := by
  refine z_iload_n dX11_roomFor_5 rfl ?_
  refine z_bipush dX11_roomFor_6 rfl (by decide) ?_
  refine z_icmp_ge (tgt := 26) dX11_roomFor_8 rfl (fun h => absurd h (by omega)) (fun h8 => ?_)
  refine z_iload_n dX11_roomFor_11 rfl ?_
  refine z_iload_n dX11_roomFor_12 rfl ?_
  refine z_icmp_ge (tgt := 26) dX11_roomFor_13 rfl (fun h13 => ?_) (fun h => absurd (by omega) h)
  refine z_iload_n dX11_roomFor_26 rfl ?_
  refine z_sipush dX11_roomFor_27 rfl (by decide) ?_
  refine z_min (zg4 9 (by decide +kernel) rfl) dX11_roomFor_30 (Nat.le_of_ble_eq_true rfl) (Nat.le_refl _) (Nat.le_refl _) ?_
  rw [if_pos (by decide)]
  refine z_iret dX11_roomFor_33 rfl rfl ?_
  have e : rm n = 10395 := by unfold rm; rw [if_neg (by omega), if_neg (by omega), if_neg (by omega), if_neg (by omega), if_neg (by omega)]
  rw [e] at hP
  exact hP

theorem l_room4 (d : Nat) {E : zE} {m : zM} {P : Option zV → zM → Prop} (n : Int) (hn : n ≤ 10395) (h90 : 1024 < n) (hP : P (some (zI (rm n))) m) : zA zX11_roomFor (d + 1) E E P 5 [zI n, zI 4096, zI 4] [] m E := by
  refine z_iload_n dX11_roomFor_5 rfl ?_
  refine z_bipush dX11_roomFor_6 rfl (by decide) ?_
  refine z_icmp_ge (tgt := 26) dX11_roomFor_8 rfl (fun h => absurd h (by omega)) (fun h8 => ?_)
  refine z_iload_n dX11_roomFor_11 rfl ?_
  refine z_iload_n dX11_roomFor_12 rfl ?_
  refine z_icmp_ge (tgt := 26) dX11_roomFor_13 rfl (fun h13 => ?_) (fun h13 => ?_)
  · refine z_iload_n dX11_roomFor_26 rfl ?_
    refine z_sipush dX11_roomFor_27 rfl (by decide) ?_
    refine z_min (zg4 9 (by decide +kernel) rfl) dX11_roomFor_30 (Nat.le_of_ble_eq_true rfl) (Nat.le_refl _) (Nat.le_refl _) ?_
    rw [if_neg (by decide)]
    refine z_iret dX11_roomFor_33 rfl rfl ?_
    have e : rm n = 4096 := by unfold rm; rw [if_neg (by omega), if_neg (by omega), if_neg (by omega), if_neg (by omega), if_pos (by omega)]
    rw [e] at hP
    exact hP
  · refine z_iload_n dX11_roomFor_16 rfl ?_
    refine z_iconst dX11_roomFor_17 (by decide) ?_
    refine z_mul dX11_roomFor_18 (by omega) ?_
    refine z_ist 1 dX11_roomFor_19 rfl (Nat.le_of_ble_eq_true rfl) ?_
    refine z_inc dX11_roomFor_20 rfl (by omega) ?_
    refine z_goto (tgt := 5) dX11_roomFor_23 rfl ?_
    try dsimp only [zs0, zsI, zsP, zsN, zsJ, zsS, zst2, Nat.reduceAdd]
    exact l_room5 d n hn (by omega) hP

theorem l_room3 (d : Nat) {E : zE} {m : zM} {P : Option zV → zM → Prop} (n : Int) (hn : n ≤ 10395) (h90 : 256 < n) (hP : P (some (zI (rm n))) m) : zA zX11_roomFor (d + 1) E E P 5 [zI n, zI 1024, zI 3] [] m E := by
  refine z_iload_n dX11_roomFor_5 rfl ?_
  refine z_bipush dX11_roomFor_6 rfl (by decide) ?_
  refine z_icmp_ge (tgt := 26) dX11_roomFor_8 rfl (fun h => absurd h (by omega)) (fun h8 => ?_)
  refine z_iload_n dX11_roomFor_11 rfl ?_
  refine z_iload_n dX11_roomFor_12 rfl ?_
  refine z_icmp_ge (tgt := 26) dX11_roomFor_13 rfl (fun h13 => ?_) (fun h13 => ?_)
  · refine z_iload_n dX11_roomFor_26 rfl ?_
    refine z_sipush dX11_roomFor_27 rfl (by decide) ?_
    refine z_min (zg4 9 (by decide +kernel) rfl) dX11_roomFor_30 (Nat.le_of_ble_eq_true rfl) (Nat.le_refl _) (Nat.le_refl _) ?_
    rw [if_neg (by decide)]
    refine z_iret dX11_roomFor_33 rfl rfl ?_
    have e : rm n = 1024 := by unfold rm; rw [if_neg (by omega), if_neg (by omega), if_neg (by omega), if_pos (by omega)]
    rw [e] at hP
    exact hP
  · refine z_iload_n dX11_roomFor_16 rfl ?_
    refine z_iconst dX11_roomFor_17 (by decide) ?_
    refine z_mul dX11_roomFor_18 (by omega) ?_
    refine z_ist 1 dX11_roomFor_19 rfl (Nat.le_of_ble_eq_true rfl) ?_
    refine z_inc dX11_roomFor_20 rfl (by omega) ?_
    refine z_goto (tgt := 5) dX11_roomFor_23 rfl ?_
    try dsimp only [zs0, zsI, zsP, zsN, zsJ, zsS, zst2, Nat.reduceAdd]
    exact l_room4 d n hn (by omega) hP

theorem l_room2 (d : Nat) {E : zE} {m : zM} {P : Option zV → zM → Prop} (n : Int) (hn : n ≤ 10395) (h90 : 64 < n) (hP : P (some (zI (rm n))) m) : zA zX11_roomFor (d + 1) E E P 5 [zI n, zI 256, zI 2] [] m E := by
  refine z_iload_n dX11_roomFor_5 rfl ?_
  refine z_bipush dX11_roomFor_6 rfl (by decide) ?_
  refine z_icmp_ge (tgt := 26) dX11_roomFor_8 rfl (fun h => absurd h (by omega)) (fun h8 => ?_)
  refine z_iload_n dX11_roomFor_11 rfl ?_
  refine z_iload_n dX11_roomFor_12 rfl ?_
  refine z_icmp_ge (tgt := 26) dX11_roomFor_13 rfl (fun h13 => ?_) (fun h13 => ?_)
  · refine z_iload_n dX11_roomFor_26 rfl ?_
    refine z_sipush dX11_roomFor_27 rfl (by decide) ?_
    refine z_min (zg4 9 (by decide +kernel) rfl) dX11_roomFor_30 (Nat.le_of_ble_eq_true rfl) (Nat.le_refl _) (Nat.le_refl _) ?_
    rw [if_neg (by decide)]
    refine z_iret dX11_roomFor_33 rfl rfl ?_
    have e : rm n = 256 := by unfold rm; rw [if_neg (by omega), if_neg (by omega), if_pos (by omega)]
    rw [e] at hP
    exact hP
  · refine z_iload_n dX11_roomFor_16 rfl ?_
    refine z_iconst dX11_roomFor_17 (by decide) ?_
    refine z_mul dX11_roomFor_18 (by omega) ?_
    refine z_ist 1 dX11_roomFor_19 rfl (Nat.le_of_ble_eq_true rfl) ?_
    refine z_inc dX11_roomFor_20 rfl (by omega) ?_
    refine z_goto (tgt := 5) dX11_roomFor_23 rfl ?_
    try dsimp only [zs0, zsI, zsP, zsN, zsJ, zsS, zst2, Nat.reduceAdd]
    exact l_room3 d n hn (by omega) hP

theorem l_room1 (d : Nat) {E : zE} {m : zM} {P : Option zV → zM → Prop} (n : Int) (hn : n ≤ 10395) (h90 : 16 < n) (hP : P (some (zI (rm n))) m) : zA zX11_roomFor (d + 1) E E P 5 [zI n, zI 64, zI 1] [] m E := by
  refine z_iload_n dX11_roomFor_5 rfl ?_
  refine z_bipush dX11_roomFor_6 rfl (by decide) ?_
  refine z_icmp_ge (tgt := 26) dX11_roomFor_8 rfl (fun h => absurd h (by omega)) (fun h8 => ?_)
  refine z_iload_n dX11_roomFor_11 rfl ?_
  refine z_iload_n dX11_roomFor_12 rfl ?_
  refine z_icmp_ge (tgt := 26) dX11_roomFor_13 rfl (fun h13 => ?_) (fun h13 => ?_)
  · refine z_iload_n dX11_roomFor_26 rfl ?_
    refine z_sipush dX11_roomFor_27 rfl (by decide) ?_
    refine z_min (zg4 9 (by decide +kernel) rfl) dX11_roomFor_30 (Nat.le_of_ble_eq_true rfl) (Nat.le_refl _) (Nat.le_refl _) ?_
    rw [if_neg (by decide)]
    refine z_iret dX11_roomFor_33 rfl rfl ?_
    have e : rm n = 64 := by unfold rm; rw [if_neg (by omega), if_pos (by omega)]
    rw [e] at hP
    exact hP
  · refine z_iload_n dX11_roomFor_16 rfl ?_
    refine z_iconst dX11_roomFor_17 (by decide) ?_
    refine z_mul dX11_roomFor_18 (by omega) ?_
    refine z_ist 1 dX11_roomFor_19 rfl (Nat.le_of_ble_eq_true rfl) ?_
    refine z_inc dX11_roomFor_20 rfl (by omega) ?_
    refine z_goto (tgt := 5) dX11_roomFor_23 rfl ?_
    try dsimp only [zs0, zsI, zsP, zsN, zsJ, zsS, zst2, Nat.reduceAdd]
    exact l_room2 d n hn (by omega) hP

theorem l_room0 (d : Nat) {E : zE} {m : zM} {P : Option zV → zM → Prop} (n : Int) (hn : n ≤ 10395) (hP : P (some (zI (rm n))) m) : zA zX11_roomFor (d + 1) E E P 5 [zI n, zI 16, zI 0] [] m E := by
  refine z_iload_n dX11_roomFor_5 rfl ?_
  refine z_bipush dX11_roomFor_6 rfl (by decide) ?_
  refine z_icmp_ge (tgt := 26) dX11_roomFor_8 rfl (fun h => absurd h (by omega)) (fun h8 => ?_)
  refine z_iload_n dX11_roomFor_11 rfl ?_
  refine z_iload_n dX11_roomFor_12 rfl ?_
  refine z_icmp_ge (tgt := 26) dX11_roomFor_13 rfl (fun h13 => ?_) (fun h13 => ?_)
  · refine z_iload_n dX11_roomFor_26 rfl ?_
    refine z_sipush dX11_roomFor_27 rfl (by decide) ?_
    refine z_min (zg4 9 (by decide +kernel) rfl) dX11_roomFor_30 (Nat.le_of_ble_eq_true rfl) (Nat.le_refl _) (Nat.le_refl _) ?_
    rw [if_neg (by decide)]
    refine z_iret dX11_roomFor_33 rfl rfl ?_
    have e : rm n = 16 := by unfold rm; rw [if_pos (by omega)]
    rw [e] at hP
    exact hP
  · refine z_iload_n dX11_roomFor_16 rfl ?_
    refine z_iconst dX11_roomFor_17 (by decide) ?_
    refine z_mul dX11_roomFor_18 (by omega) ?_
    refine z_ist 1 dX11_roomFor_19 rfl (Nat.le_of_ble_eq_true rfl) ?_
    refine z_inc dX11_roomFor_20 rfl (by omega) ?_
    refine z_goto (tgt := 5) dX11_roomFor_23 rfl ?_
    try dsimp only [zs0, zsI, zsP, zsN, zsJ, zsS, zst2, Nat.reduceAdd]
    exact l_room1 d n hn (by omega) hP

theorem c_roomFor (d : Nat) {E : zE} {m : zM} (n : Int) (hn : n ≤ 10395) : zR zX11_roomFor (d + 1) [zI n] m E E (fun r m' => r = some (zI (rm n)) ∧ m = m') := by
  refine zR_go [zI n, zN, zN] (by decide +kernel) (Nat.le_of_ble_eq_true rfl) rfl rfl ?_
  refine z_bipush dX11_roomFor_0 rfl (by decide) ?_
  refine z_ist 1 dX11_roomFor_2 rfl (Nat.le_of_ble_eq_true rfl) ?_
  refine z_iconst dX11_roomFor_3 (by decide) ?_
  refine z_ist 2 dX11_roomFor_4 rfl (Nat.le_of_ble_eq_true rfl) ?_
  try dsimp only [zs0, zsI, zsP, zsN, zsJ, zsS, zst2, Nat.reduceAdd]
  exact l_room0 d n hn ⟨rfl, rfl⟩
