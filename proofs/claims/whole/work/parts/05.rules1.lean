/-! rows: an instruction each (stack, locals, numbers, branches) -/
theorem zok_p {S : List zV} {v : zV} (hv : zok v) (h : ∀ w ∈ S, zok w) : ∀ w ∈ v :: S, zok w := fun w hw => (List.mem_cons.mp hw).elim (fun e => e ▸ hv) (h w)
theorem zok_t {S : List zV} {v : zV} (h : ∀ w ∈ v :: S, zok w) : ∀ w ∈ S, zok w := fun w hw => h w (List.mem_cons_of_mem _ hw)
theorem zok_h {S : List zV} {v : zV} (h : ∀ w ∈ v :: S, zok w) : zok v := h v List.mem_cons_self
section ZR1
variable {y : zY} {d : Nat} {E0 E' E : zE} {P : Option zV → zM → Prop} {pc : Nat} {L S : List zV} {m : zM}

theorem z_iadd {a b : Int} (hd : decode y.2.1 pc = .ok (.iadd, 1)) (k : zA y d E0 E' P (pc + 1) L (zI (w32 (a + b)) :: S) m E) : zA y d E0 E' P pc L (zI b :: zI a :: S) m E := by
  intro G p l e s mid args below meth c H locs ls cx hH hS hl hL okL okS g1 g2
  have kk := k G p l e s mid args below meth c H locs ls cx hH hS hl hL okL (zok_p (show zok (zI _) from zr32_of _) (zok_t (zok_t okS))) g1 g2
  refine lv_iadd cx.1 cx.2.1 hd  ?_
  have e : Int32.ofInt (w32 (a + b)) = Int32.ofInt a + Int32.ofInt b := by rw [w32_of, Int32.ofInt_add]
  simp only [List.map_cons, ze] at kk ⊢
  rw [e] at kk
  exact kk

theorem z_isub {a b : Int} (hd : decode y.2.1 pc = .ok (.isub, 1)) (k : zA y d E0 E' P (pc + 1) L (zI (w32 (a - b)) :: S) m E) : zA y d E0 E' P pc L (zI b :: zI a :: S) m E := by
  intro G p l e s mid args below meth c H locs ls cx hH hS hl hL okL okS g1 g2
  have kk := k G p l e s mid args below meth c H locs ls cx hH hS hl hL okL (zok_p (show zok (zI _) from zr32_of _) (zok_t (zok_t okS))) g1 g2
  refine lv_isub cx.1 cx.2.1 hd  ?_
  have e : Int32.ofInt (w32 (a - b)) = Int32.ofInt a - Int32.ofInt b := by rw [w32_of, Int32.ofInt_sub]
  simp only [List.map_cons, ze] at kk ⊢
  rw [e] at kk
  exact kk

theorem z_imul {a b : Int} (hd : decode y.2.1 pc = .ok (.imul, 1)) (k : zA y d E0 E' P (pc + 1) L (zI (w32 (a * b)) :: S) m E) : zA y d E0 E' P pc L (zI b :: zI a :: S) m E := by
  intro G p l e s mid args below meth c H locs ls cx hH hS hl hL okL okS g1 g2
  have kk := k G p l e s mid args below meth c H locs ls cx hH hS hl hL okL (zok_p (show zok (zI _) from zr32_of _) (zok_t (zok_t okS))) g1 g2
  refine lv_imul cx.1 cx.2.1 hd  ?_
  have e : Int32.ofInt (w32 (a * b)) = Int32.ofInt a * Int32.ofInt b := by rw [w32_of, Int32.ofInt_mul]
  simp only [List.map_cons, ze] at kk ⊢
  rw [e] at kk
  exact kk

theorem z_iand {a b : Int} (hd : decode y.2.1 pc = .ok (.iand, 1)) (k : zA y d E0 E' P (pc + 1) L (zI (zand a b) :: S) m E) : zA y d E0 E' P pc L (zI b :: zI a :: S) m E := by
  intro G p l e s mid args below meth c H locs ls cx hH hS hl hL okL okS g1 g2
  have kk := k G p l e s mid args below meth c H locs ls cx hH hS hl hL okL (zok_p (show zok (zI _) from zr32_of _) (zok_t (zok_t okS))) g1 g2
  refine lv_iand cx.1 cx.2.1 hd  ?_
  have e : Int32.ofInt (zand a b) = Int32.ofInt a &&& Int32.ofInt b := by exact Int32.ofInt_toInt _
  simp only [List.map_cons, ze] at kk ⊢
  rw [e] at kk
  exact kk

theorem z_ior {a b : Int} (hd : decode y.2.1 pc = .ok (.ior, 1)) (k : zA y d E0 E' P (pc + 1) L (zI (zor a b) :: S) m E) : zA y d E0 E' P pc L (zI b :: zI a :: S) m E := by
  intro G p l e s mid args below meth c H locs ls cx hH hS hl hL okL okS g1 g2
  have kk := k G p l e s mid args below meth c H locs ls cx hH hS hl hL okL (zok_p (show zok (zI _) from zr32_of _) (zok_t (zok_t okS))) g1 g2
  refine lv_ior cx.1 cx.2.1 hd  ?_
  have e : Int32.ofInt (zor a b) = Int32.ofInt a ||| Int32.ofInt b := by exact Int32.ofInt_toInt _
  simp only [List.map_cons, ze] at kk ⊢
  rw [e] at kk
  exact kk

theorem z_ixor {a b : Int} (hd : decode y.2.1 pc = .ok (.ixor, 1)) (k : zA y d E0 E' P (pc + 1) L (zI (zxor a b) :: S) m E) : zA y d E0 E' P pc L (zI b :: zI a :: S) m E := by
  intro G p l e s mid args below meth c H locs ls cx hH hS hl hL okL okS g1 g2
  have kk := k G p l e s mid args below meth c H locs ls cx hH hS hl hL okL (zok_p (show zok (zI _) from zr32_of _) (zok_t (zok_t okS))) g1 g2
  refine lv_ixor cx.1 cx.2.1 hd  ?_
  have e : Int32.ofInt (zxor a b) = Int32.ofInt a ^^^ Int32.ofInt b := by exact Int32.ofInt_toInt _
  simp only [List.map_cons, ze] at kk ⊢
  rw [e] at kk
  exact kk

theorem z_ishl {a b : Int} (hd : decode y.2.1 pc = .ok (.ishl, 1)) (k : zA y d E0 E' P (pc + 1) L (zI (zshl a b) :: S) m E) : zA y d E0 E' P pc L (zI b :: zI a :: S) m E := by
  intro G p l e s mid args below meth c H locs ls cx hH hS hl hL okL okS g1 g2
  have kk := k G p l e s mid args below meth c H locs ls cx hH hS hl hL okL (zok_p (show zok (zI _) from zr32_of _) (zok_t (zok_t okS))) g1 g2
  refine lv_ishl cx.1 cx.2.1 hd  ?_
  have e : Int32.ofInt (zshl a b) = Int32.ofInt a <<< (Int32.ofInt b &&& 31) := by exact Int32.ofInt_toInt _
  simp only [List.map_cons, ze] at kk ⊢
  rw [e] at kk
  exact kk

theorem z_ishr {a b : Int} (hd : decode y.2.1 pc = .ok (.ishr, 1)) (k : zA y d E0 E' P (pc + 1) L (zI (zshr a b) :: S) m E) : zA y d E0 E' P pc L (zI b :: zI a :: S) m E := by
  intro G p l e s mid args below meth c H locs ls cx hH hS hl hL okL okS g1 g2
  have kk := k G p l e s mid args below meth c H locs ls cx hH hS hl hL okL (zok_p (show zok (zI _) from zr32_of _) (zok_t (zok_t okS))) g1 g2
  refine lv_ishr cx.1 cx.2.1 hd  ?_
  have e : Int32.ofInt (zshr a b) = Int32.ofInt a >>> (Int32.ofInt b &&& 31) := by exact Int32.ofInt_toInt _
  simp only [List.map_cons, ze] at kk ⊢
  rw [e] at kk
  exact kk

theorem z_idiv {a b : Int} (hd : decode y.2.1 pc = .ok (.idiv, 1)) (hb : b ≠ 0) (k : zA y d E0 E' P (pc + 1) L (zI (zdiv a b) :: S) m E) : zA y d E0 E' P pc L (zI b :: zI a :: S) m E := by
  intro G p l e s mid args below meth c H locs ls cx hH hS hl hL okL okS g1 g2
  have kk := k G p l e s mid args below meth c H locs ls cx hH hS hl hL okL (zok_p (show zok (zI _) from zr32_of _) (zok_t (zok_t okS))) g1 g2
  refine lv_idiv cx.1 cx.2.1 hd (fun h => hb ((z32_eq (zok_h okS) zr32_0).mp h)) ?_
  have e : Int32.ofInt (zdiv a b) = Int32.ofInt a / Int32.ofInt b := by exact Int32.ofInt_toInt _
  simp only [List.map_cons, ze] at kk ⊢
  rw [e] at kk
  exact kk

theorem z_irem {a b : Int} (hd : decode y.2.1 pc = .ok (.irem, 1)) (hb : b ≠ 0) (k : zA y d E0 E' P (pc + 1) L (zI (zrem a b) :: S) m E) : zA y d E0 E' P pc L (zI b :: zI a :: S) m E := by
  intro G p l e s mid args below meth c H locs ls cx hH hS hl hL okL okS g1 g2
  have kk := k G p l e s mid args below meth c H locs ls cx hH hS hl hL okL (zok_p (show zok (zI _) from zr32_of _) (zok_t (zok_t okS))) g1 g2
  refine lv_irem cx.1 cx.2.1 hd (fun h => hb ((z32_eq (zok_h okS) zr32_0).mp h)) ?_
  have e : Int32.ofInt (zrem a b) = Int32.ofInt a - Int32.ofInt a / Int32.ofInt b * Int32.ofInt b := by exact Int32.ofInt_toInt _
  simp only [List.map_cons, ze] at kk ⊢
  rw [e] at kk
  exact kk

theorem z_ladd {a b : Int} (hd : decode y.2.1 pc = .ok (.ladd, 1)) (k : zA y d E0 E' P (pc + 1) L (zJ (w64 (a + b)) :: S) m E) : zA y d E0 E' P pc L (zJ b :: zJ a :: S) m E := by
  intro G p l e s mid args below meth c H locs ls cx hH hS hl hL okL okS g1 g2
  have kk := k G p l e s mid args below meth c H locs ls cx hH hS hl hL okL (zok_p (show zok (zJ _) from zr64_of _) (zok_t (zok_t okS))) g1 g2
  refine lv_ladd cx.1 cx.2.1 hd  ?_
  have e : Int64.ofInt (w64 (a + b)) = Int64.ofInt a + Int64.ofInt b := by rw [w64_of, Int64.ofInt_add]
  simp only [List.map_cons, ze] at kk ⊢
  rw [e] at kk
  exact kk

theorem z_lsub {a b : Int} (hd : decode y.2.1 pc = .ok (.lsub, 1)) (k : zA y d E0 E' P (pc + 1) L (zJ (w64 (a - b)) :: S) m E) : zA y d E0 E' P pc L (zJ b :: zJ a :: S) m E := by
  intro G p l e s mid args below meth c H locs ls cx hH hS hl hL okL okS g1 g2
  have kk := k G p l e s mid args below meth c H locs ls cx hH hS hl hL okL (zok_p (show zok (zJ _) from zr64_of _) (zok_t (zok_t okS))) g1 g2
  refine lv_lsub cx.1 cx.2.1 hd  ?_
  have e : Int64.ofInt (w64 (a - b)) = Int64.ofInt a - Int64.ofInt b := by rw [w64_of, Int64.ofInt_sub]
  simp only [List.map_cons, ze] at kk ⊢
  rw [e] at kk
  exact kk

theorem z_lmul {a b : Int} (hd : decode y.2.1 pc = .ok (.lmul, 1)) (k : zA y d E0 E' P (pc + 1) L (zJ (w64 (a * b)) :: S) m E) : zA y d E0 E' P pc L (zJ b :: zJ a :: S) m E := by
  intro G p l e s mid args below meth c H locs ls cx hH hS hl hL okL okS g1 g2
  have kk := k G p l e s mid args below meth c H locs ls cx hH hS hl hL okL (zok_p (show zok (zJ _) from zr64_of _) (zok_t (zok_t okS))) g1 g2
  refine lv_lmul cx.1 cx.2.1 hd  ?_
  have e : Int64.ofInt (w64 (a * b)) = Int64.ofInt a * Int64.ofInt b := by rw [w64_of, Int64.ofInt_mul]
  simp only [List.map_cons, ze] at kk ⊢
  rw [e] at kk
  exact kk

theorem z_land {a b : Int} (hd : decode y.2.1 pc = .ok (.land, 1)) (k : zA y d E0 E' P (pc + 1) L (zJ (zland a b) :: S) m E) : zA y d E0 E' P pc L (zJ b :: zJ a :: S) m E := by
  intro G p l e s mid args below meth c H locs ls cx hH hS hl hL okL okS g1 g2
  have kk := k G p l e s mid args below meth c H locs ls cx hH hS hl hL okL (zok_p (show zok (zJ _) from zr64_of _) (zok_t (zok_t okS))) g1 g2
  refine lv_land cx.1 cx.2.1 hd  ?_
  have e : Int64.ofInt (zland a b) = Int64.ofInt a &&& Int64.ofInt b := by exact Int64.ofInt_toInt _
  simp only [List.map_cons, ze] at kk ⊢
  rw [e] at kk
  exact kk

theorem z_lor {a b : Int} (hd : decode y.2.1 pc = .ok (.lor, 1)) (k : zA y d E0 E' P (pc + 1) L (zJ (zlor a b) :: S) m E) : zA y d E0 E' P pc L (zJ b :: zJ a :: S) m E := by
  intro G p l e s mid args below meth c H locs ls cx hH hS hl hL okL okS g1 g2
  have kk := k G p l e s mid args below meth c H locs ls cx hH hS hl hL okL (zok_p (show zok (zJ _) from zr64_of _) (zok_t (zok_t okS))) g1 g2
  refine lv_lor cx.1 cx.2.1 hd  ?_
  have e : Int64.ofInt (zlor a b) = Int64.ofInt a ||| Int64.ofInt b := by exact Int64.ofInt_toInt _
  simp only [List.map_cons, ze] at kk ⊢
  rw [e] at kk
  exact kk

theorem z_ldiv {a b : Int} (hd : decode y.2.1 pc = .ok (.ldiv, 1)) (hb : b ≠ 0) (k : zA y d E0 E' P (pc + 1) L (zJ (zldiv a b) :: S) m E) : zA y d E0 E' P pc L (zJ b :: zJ a :: S) m E := by
  intro G p l e s mid args below meth c H locs ls cx hH hS hl hL okL okS g1 g2
  have kk := k G p l e s mid args below meth c H locs ls cx hH hS hl hL okL (zok_p (show zok (zJ _) from zr64_of _) (zok_t (zok_t okS))) g1 g2
  refine lv_ldiv cx.1 cx.2.1 hd (fun h => hb ((z64_eq (zok_h okS) ⟨by decide, by decide⟩).mp h)) ?_
  have e : Int64.ofInt (zldiv a b) = Int64.ofInt a / Int64.ofInt b := by exact Int64.ofInt_toInt _
  simp only [List.map_cons, ze] at kk ⊢
  rw [e] at kk
  exact kk

theorem z_lshl {a b : Int} (hd : decode y.2.1 pc = .ok (.lshl, 1)) (k : zA y d E0 E' P (pc + 1) L (zJ (zlshl a b) :: S) m E) : zA y d E0 E' P pc L (zI b :: zJ a :: S) m E := by
  intro G p l e s mid args below meth c H locs ls cx hH hS hl hL okL okS g1 g2
  have kk := k G p l e s mid args below meth c H locs ls cx hH hS hl hL okL (zok_p (show zok (zJ _) from zr64_of _) (zok_t (zok_t okS))) g1 g2
  refine lv_lshl cx.1 cx.2.1 (v := Int64.ofInt a <<< ((Int32.ofInt b).toInt64 &&& 63)) hd rfl ?_
  have e : Int64.ofInt (zlshl a b) = Int64.ofInt a <<< ((Int32.ofInt b).toInt64 &&& 63) := Int64.ofInt_toInt _
  simp only [List.map_cons, ze] at kk ⊢
  rw [e] at kk
  exact kk

theorem z_lshr {a b : Int} (hd : decode y.2.1 pc = .ok (.lshr, 1)) (k : zA y d E0 E' P (pc + 1) L (zJ (zlshr a b) :: S) m E) : zA y d E0 E' P pc L (zI b :: zJ a :: S) m E := by
  intro G p l e s mid args below meth c H locs ls cx hH hS hl hL okL okS g1 g2
  have kk := k G p l e s mid args below meth c H locs ls cx hH hS hl hL okL (zok_p (show zok (zJ _) from zr64_of _) (zok_t (zok_t okS))) g1 g2
  refine lv_lshr cx.1 cx.2.1 (v := Int64.ofInt a >>> ((Int32.ofInt b).toInt64 &&& 63)) hd rfl ?_
  have e : Int64.ofInt (zlshr a b) = Int64.ofInt a >>> ((Int32.ofInt b).toInt64 &&& 63) := Int64.ofInt_toInt _
  simp only [List.map_cons, ze] at kk ⊢
  rw [e] at kk
  exact kk

theorem z_lushr {a b : Int} (hd : decode y.2.1 pc = .ok (.lushr, 1)) (k : zA y d E0 E' P (pc + 1) L (zJ (zlushr a b) :: S) m E) : zA y d E0 E' P pc L (zI b :: zJ a :: S) m E := by
  intro G p l e s mid args below meth c H locs ls cx hH hS hl hL okL okS g1 g2
  have kk := k G p l e s mid args below meth c H locs ls cx hH hS hl hL okL (zok_p (show zok (zJ _) from zr64_of _) (zok_t (zok_t okS))) g1 g2
  refine lv_lushr cx.1 cx.2.1 (v := ((Int64.ofInt a).toUInt64 >>> ((Int32.ofInt b).toInt64.toUInt64 &&& Int64.toUInt64 63)).toInt64) hd rfl ?_
  have e : Int64.ofInt (zlushr a b) = ((Int64.ofInt a).toUInt64 >>> ((Int32.ofInt b).toInt64.toUInt64 &&& Int64.toUInt64 63)).toInt64 := Int64.ofInt_toInt _
  simp only [List.map_cons, ze] at kk ⊢
  rw [e] at kk
  exact kk

theorem z_ineg {a : Int} (hd : decode y.2.1 pc = .ok (.ineg, 1)) (k : zA y d E0 E' P (pc + 1) L (zI (zneg a) :: S) m E) : zA y d E0 E' P pc L (zI a :: S) m E := by
  intro G p l e s mid args below meth c H locs ls cx hH hS hl hL okL okS g1 g2
  have kk := k G p l e s mid args below meth c H locs ls cx hH hS hl hL okL (zok_p (show zok (zI _) from zr32_of _) (zok_t okS)) g1 g2
  refine lv_ineg cx.1 cx.2.1 hd ?_
  have e : Int32.ofInt (zneg a) = -Int32.ofInt a := by rw [zneg, w32_of, Int32.ofInt_neg]
  simp only [List.map_cons, ze] at kk ⊢
  rw [e] at kk
  exact kk

theorem z_l2i {a : Int} (hd : decode y.2.1 pc = .ok (.l2i, 1)) (k : zA y d E0 E' P (pc + 1) L (zI (zl2i a) :: S) m E) : zA y d E0 E' P pc L (zJ a :: S) m E := by
  intro G p l e s mid args below meth c H locs ls cx hH hS hl hL okL okS g1 g2
  have kk := k G p l e s mid args below meth c H locs ls cx hH hS hl hL okL (zok_p (show zok (zI _) from zr32_of _) (zok_t okS)) g1 g2
  refine lv_l2i cx.1 cx.2.1 hd rfl ?_
  have e : Int32.ofInt (zl2i a) = (Int64.ofInt a).toInt32 := by exact Int32.ofInt_toInt _
  simp only [List.map_cons, ze] at kk ⊢
  rw [e] at kk
  exact kk

theorem z_i2b {a : Int} (hd : decode y.2.1 pc = .ok (.i2b, 1)) (k : zA y d E0 E' P (pc + 1) L (zI (zi2b a) :: S) m E) : zA y d E0 E' P pc L (zI a :: S) m E := by
  intro G p l e s mid args below meth c H locs ls cx hH hS hl hL okL okS g1 g2
  have kk := k G p l e s mid args below meth c H locs ls cx hH hS hl hL okL (zok_p (show zok (zI _) from zr32_of _) (zok_t okS)) g1 g2
  refine lv_i2b cx.1 cx.2.1 hd rfl ?_
  have e : Int32.ofInt (zi2b a) = (Int32.ofInt a).toInt8.toInt32 := by exact Int32.ofInt_toInt _
  simp only [List.map_cons, ze] at kk ⊢
  rw [e] at kk
  exact kk

theorem z_i2l {a : Int} (hd : decode y.2.1 pc = .ok (.i2l, 1)) (k : zA y d E0 E' P (pc + 1) L (zJ a :: S) m E) : zA y d E0 E' P pc L (zI a :: S) m E := by
  intro G p l e s mid args below meth c H locs ls cx hH hS hl hL okL okS g1 g2
  have ha : zr32 a := zok_h okS
  have kk := k G p l e s mid args below meth c H locs ls cx hH hS hl hL okL (zok_p (show zok (zJ a) from ⟨by have := ha.1; omega, by have := ha.2; omega⟩) (zok_t okS)) g1 g2
  refine lv_i2l cx.1 cx.2.1 hd rfl ?_
  have e : (Int32.ofInt a).toInt64 = Int64.ofInt a := by
    apply Int64.toInt_inj.mp
    rw [Int32.toInt_toInt64, z32_toInt ha, z64_toInt ⟨by have := ha.1; omega, by have := ha.2; omega⟩]
  simp only [List.map_cons, ze] at kk ⊢
  rw [e]
  exact kk
theorem z_lcmp {a b : Int} (hd : decode y.2.1 pc = .ok (.lcmp, 1)) (k : zA y d E0 E' P (pc + 1) L (zI (zcmp a b) :: S) m E) : zA y d E0 E' P pc L (zJ b :: zJ a :: S) m E := by
  intro G p l e s mid args below meth c H locs ls cx hH hS hl hL okL okS g1 g2
  have ha : zr64 a := zok_h (zok_t okS)
  have hb : zr64 b := zok_h okS
  have hc : zr32 (zcmp a b) := by unfold zcmp; split <;> (try split) <;> exact ⟨by decide, by decide⟩
  have kk := k G p l e s mid args below meth c H locs ls cx hH hS hl hL okL (zok_p (show zok (zI _) from hc) (zok_t (zok_t okS))) g1 g2
  refine W.lcmp cx.1 cx.2.1 hd ?_
  have e : lg_cmp (Int64.ofInt a) (Int64.ofInt b) = Int32.ofInt (zcmp a b) := by
    unfold lg_cmp zcmp
    simp only [gt_iff_lt, z64_lt hb ha, z64_eq ha hb]
    by_cases h1 : b < a
    · rw [if_pos h1, if_neg (by omega), if_neg (by omega)]; rfl
    · rw [if_neg h1]
      by_cases h2 : a = b
      · rw [if_pos h2, if_neg (by omega), if_pos h2]; rfl
      · rw [if_neg h2, if_pos (by omega)]; rfl
  simp only [List.map_cons, ze] at kk ⊢
  rw [e]
  exact kk

theorem z_iconst {n : Int} (hd : decode y.2.1 pc = .ok (.iconst n, 1)) (hn : -2147483648 ≤ n ∧ n < 2147483648) (k : zA y d E0 E' P (pc + 1) L (zI n :: S) m E) : zA y d E0 E' P pc L S m E := by
  intro G p l e s mid args below meth c H locs ls cx hH hS hl hL okL okS g1 g2
  have kk := k G p l e s mid args below meth c H locs ls cx hH hS hl hL okL (zok_p (show zok (zI n) from hn) okS) g1 g2
  exact lv_iconst cx.1 cx.2.1 hd rfl kk
theorem z_bipush {n : Int} (hd : decode y.2.1 pc = .ok (.bipush n, 2)) (hv : (Int8.ofInt n).toInt32 = Int32.ofInt n) (hn : -2147483648 ≤ n ∧ n < 2147483648) (k : zA y d E0 E' P (pc + 2) L (zI n :: S) m E) : zA y d E0 E' P pc L S m E := by
  intro G p l e s mid args below meth c H locs ls cx hH hS hl hL okL okS g1 g2
  have kk := k G p l e s mid args below meth c H locs ls cx hH hS hl hL okL (zok_p (show zok (zI n) from hn) okS) g1 g2
  exact lv_bipush cx.1 cx.2.1 hd hv kk
theorem z_sipush {n : Int} (hd : decode y.2.1 pc = .ok (.sipush n, 3)) (hv : (Int16.ofInt n).toInt32 = Int32.ofInt n) (hn : -2147483648 ≤ n ∧ n < 2147483648) (k : zA y d E0 E' P (pc + 3) L (zI n :: S) m E) : zA y d E0 E' P pc L S m E := by
  intro G p l e s mid args below meth c H locs ls cx hH hS hl hL okL okS g1 g2
  have kk := k G p l e s mid args below meth c H locs ls cx hH hS hl hL okL (zok_p (show zok (zI n) from hn) okS) g1 g2
  exact lv_sipush cx.1 cx.2.1 hd hv kk
theorem z_lconst0 (hd : decode y.2.1 pc = .ok (.lconst 0, 1)) (k : zA y d E0 E' P (pc + 1) L (zJ 0 :: S) m E) : zA y d E0 E' P pc L S m E := by
  intro G p l e s mid args below meth c H locs ls cx hH hS hl hL okL okS g1 g2
  have kk := k G p l e s mid args below meth c H locs ls cx hH hS hl hL okL (zok_p (show zok (zJ 0) from ⟨by decide, by decide⟩) okS) g1 g2
  exact lv_lconst cx.1 cx.2.1 hd rfl kk
theorem z_lconst1 (hd : decode y.2.1 pc = .ok (.lconst 1, 1)) (k : zA y d E0 E' P (pc + 1) L (zJ 1 :: S) m E) : zA y d E0 E' P pc L S m E := by
  intro G p l e s mid args below meth c H locs ls cx hH hS hl hL okL okS g1 g2
  have kk := k G p l e s mid args below meth c H locs ls cx hH hS hl hL okL (zok_p (show zok (zJ 1) from ⟨by decide, by decide⟩) okS) g1 g2
  exact lv_lconst cx.1 cx.2.1 hd rfl kk
theorem z_ldc {n : Int} {i : Nat} (hd : decode y.2.1 pc = .ok (.ldc i, 2)) (hw : Cond.constant y.1.cls i (Int32.ofInt n) ∈ zgood) (hn : -2147483648 ≤ n ∧ n < 2147483648) (k : zA y d E0 E' P (pc + 2) L (zI n :: S) m E) : zA y d E0 E' P pc L S m E := by
  intro G p l e s mid args below meth c H locs ls cx hH hS hl hL okL okS g1 g2
  have kk := k G p l e s mid args below meth c H locs ls cx hH hS hl hL okL (zok_p (show zok (zI n) from hn) okS) g1 g2
  exact lv_ldc cx.1 cx.2.1 cx.2.2.2.2.1 (cx.2.2.2.2.2.1 _ hw) hd kk
theorem z_ldc2 {n : Int} {i : Nat} (hd : decode y.2.1 pc = .ok (.ldc2_w i, 3)) (hw : Cond.constantLong y.1.cls i (Int64.ofInt n) ∈ zgood) (hn : -9223372036854775808 ≤ n ∧ n < 9223372036854775808) (k : zA y d E0 E' P (pc + 3) L (zJ n :: S) m E) : zA y d E0 E' P pc L S m E := by
  intro G p l e s mid args below meth c H locs ls cx hH hS hl hL okL okS g1 g2
  have kk := k G p l e s mid args below meth c H locs ls cx hH hS hl hL okL (zok_p (show zok (zJ n) from hn) okS) g1 g2
  exact lv_ldc2 cx.1 cx.2.1 cx.2.2.2.2.1 (cx.2.2.2.2.2.1 _ hw) hd kk

theorem z_iload_n {f : Fin 4} {x : Int} (hd : decode y.2.1 pc = .ok (.iload_n f, 1)) (hx : L[(f : Nat)]? = some (zI x)) (k : zA y d E0 E' P (pc + 1) L (zI x :: S) m E) : zA y d E0 E' P pc L S m E := by
  intro G p l e s mid args below meth c H locs ls cx hH hS hl hL okL okS g1 g2
  have kk := k G p l e s mid args below meth c H locs ls cx hH hS hl hL okL (zok_p (okL _ (List.mem_of_getElem? hx)) okS) g1 g2
  refine lv_iload_n cx.1 cx.2.1 hd rfl ?_ kk
  have := hl.2.2 _ (zLs_mem G L 0 f (zI x) hx (by simp))
  simpa [ze] using this
theorem z_iload {i : Nat} {x : Int} (hd : decode y.2.1 pc = .ok (.iload i, 2)) (hx : L[i]? = some (zI x)) (k : zA y d E0 E' P (pc + 2) L (zI x :: S) m E) : zA y d E0 E' P pc L S m E := by
  intro G p l e s mid args below meth c H locs ls cx hH hS hl hL okL okS g1 g2
  have kk := k G p l e s mid args below meth c H locs ls cx hH hS hl hL okL (zok_p (okL _ (List.mem_of_getElem? hx)) okS) g1 g2
  refine lv_iload cx.1 cx.2.1 hd ?_ kk
  have := hl.2.2 _ (zLs_mem G L 0 i (zI x) hx (by simp))
  simpa [ze] using this

theorem z_lload_n {f : Fin 4} {x : Int} (hd : decode y.2.1 pc = .ok (.lload_n f, 1)) (hx : L[(f : Nat)]? = some (zJ x)) (k : zA y d E0 E' P (pc + 1) L (zJ x :: S) m E) : zA y d E0 E' P pc L S m E := by
  intro G p l e s mid args below meth c H locs ls cx hH hS hl hL okL okS g1 g2
  have kk := k G p l e s mid args below meth c H locs ls cx hH hS hl hL okL (zok_p (okL _ (List.mem_of_getElem? hx)) okS) g1 g2
  refine lv_lload_n cx.1 cx.2.1 hd rfl ?_ kk
  have := hl.2.2 _ (zLs_mem G L 0 f (zJ x) hx (by simp))
  simpa [ze] using this
theorem z_lload {i : Nat} {x : Int} (hd : decode y.2.1 pc = .ok (.lload i, 2)) (hx : L[i]? = some (zJ x)) (k : zA y d E0 E' P (pc + 2) L (zJ x :: S) m E) : zA y d E0 E' P pc L S m E := by
  intro G p l e s mid args below meth c H locs ls cx hH hS hl hL okL okS g1 g2
  have kk := k G p l e s mid args below meth c H locs ls cx hH hS hl hL okL (zok_p (okL _ (List.mem_of_getElem? hx)) okS) g1 g2
  refine lv_lload cx.1 cx.2.1 hd ?_ kk
  have := hl.2.2 _ (zLs_mem G L 0 i (zJ x) hx (by simp))
  simpa [ze] using this

theorem z_aload_n {f : Fin 4} {x : Int} (hd : decode y.2.1 pc = .ok (.aload_n f, 1)) (hx : L[(f : Nat)]? = some (zP x)) (k : zA y d E0 E' P (pc + 1) L (zP x :: S) m E) : zA y d E0 E' P pc L S m E := by
  intro G p l e s mid args below meth c H locs ls cx hH hS hl hL okL okS g1 g2
  have kk := k G p l e s mid args below meth c H locs ls cx hH hS hl hL okL (zok_p (okL _ (List.mem_of_getElem? hx)) okS) g1 g2
  refine lv_aload_n cx.1 cx.2.1 hd rfl ?_ kk
  have := hl.2.2 _ (zLs_mem G L 0 f (zP x) hx (by simp))
  simpa [ze] using this
theorem z_aload {i : Nat} {x : Int} (hd : decode y.2.1 pc = .ok (.aload i, 2)) (hx : L[i]? = some (zP x)) (k : zA y d E0 E' P (pc + 2) L (zP x :: S) m E) : zA y d E0 E' P pc L S m E := by
  intro G p l e s mid args below meth c H locs ls cx hH hS hl hL okL okS g1 g2
  have kk := k G p l e s mid args below meth c H locs ls cx hH hS hl hL okL (zok_p (okL _ (List.mem_of_getElem? hx)) okS) g1 g2
  refine lv_aload cx.1 cx.2.1 hd ?_ kk
  have := hl.2.2 _ (zLs_mem G L 0 i (zP x) hx (by simp))
  simpa [ze] using this

def zlong : zV → Bool
  | .inl (.inr _) => true
  | _ => false
/-- a store of one word -/
def zst : List zV → Nat → zV → List zV
  | [], _, _ => []
  | _ :: L, 0, v => v :: L
  | w :: L, 1, v => (if zlong w then zN else w) :: zst L 0 v
  | w :: L, i + 2, v => w :: zst L (i + 1) v
/-- a store of two words -/
def zst2 (L : List zV) (i : Nat) (v : zV) : List zV := zst (zst L (i + 1) zN) i v
theorem zst_len : ∀ (L : List zV) (i : Nat) (v : zV), (zst L i v).length = L.length
  | [], _, _ => rfl
  | _ :: L, 0, _ => rfl
  | _ :: L, 1, v => by simp [zst, zst_len L 0 v]
  | _ :: L, i + 2, v => by simp [zst, zst_len L (i + 1) v]
theorem zst_at : ∀ (L : List zV) (i : Nat) (v : zV) (k : Nat) (w : zV), (zst L i v)[k]? = some w → w ≠ .inr none → (k = i ∧ w = v) ∨ (k ≠ i ∧ L[k]? = some w ∧ ¬ (k + 1 = i ∧ zlong w = true))
  | [], _, _, k, w, h, _ => by simp [zst] at h
  | u :: L, 0, v, k, w, h, hw => by
    cases k with
    | zero => left; simpa [zst] using h.symm
    | succ k => right; exact ⟨by omega, by simpa [zst] using h, by omega⟩
  | u :: L, 1, v, k, w, h, hw => by
    cases k with
    | zero =>
      right
      simp only [zst, List.getElem?_cons_zero, Option.some.injEq] at h
      cases hu : zlong u with
      | true => rw [hu] at h; exact absurd h.symm hw
      | false =>
        rw [hu] at h
        simp only [Bool.false_eq_true, if_false] at h
        subst h
        exact ⟨by omega, by simp, by simp [hu]⟩
    | succ k =>
      simp only [zst, List.getElem?_cons_succ] at h
      rcases zst_at L 0 v k w h hw with h1 | h1
      · left; exact ⟨by omega, h1.2⟩
      · right; exact ⟨by omega, by simpa using h1.2.1, by omega⟩
  | u :: L, i + 2, v, k, w, h, hw => by
    cases k with
    | zero => right; exact ⟨by omega, by simpa [zst] using h, by omega⟩
    | succ k =>
      simp only [zst, List.getElem?_cons_succ] at h
      rcases zst_at L (i + 1) v k w h hw with h1 | h1
      · left; exact ⟨by omega, h1.2⟩
      · right; exact ⟨by omega, by simpa using h1.2.1, fun q => h1.2.2 ⟨by omega, q.2⟩⟩
theorem zlong_cat (G : zG) (w : zV) (h : (ze G w).category = 2) : zlong w = true := by
  rcases w with (w | w) | (_ | (w | (_ | w))) <;> first | rfl | (simp [ze, Value.category] at h)
theorem zst_ok {L : List zV} {i : Nat} {v : zV} (h : ∀ w ∈ L, zok w) (hv : zok v) : ∀ w ∈ zst L i v, zok w := by
  intro w hw
  obtain ⟨k, hk⟩ := List.getElem?_of_mem hw
  by_cases hn : w = .inr none
  · subst hn; trivial
  · rcases zst_at L i v k w hk hn with ⟨-, h1⟩ | ⟨-, h1, -⟩
    · exact h1 ▸ hv
    · exact h w (List.mem_of_getElem? h1)
theorem zst_has {G : zG} {ls : Array Slot} {nL : Nat} {L : List zV} {i : Nat} {v : zV} (h : lv_has ls nL ((i, ze G v) :: (zLs G 0 L).filter (fun q => !(q.1 == i) && !(q.1 + 1 == i && q.2.category == 2)))) : lv_has ls nL (zLs G 0 (zst L i v)) := by
  refine ⟨h.1, h.2.1, fun q hq => h.2.2 q ?_⟩
  obtain ⟨k, w, rfl, hk, hw⟩ := zLs_of G _ 0 q hq
  rcases zst_at L i v k w hk hw with ⟨h1, h2⟩ | ⟨h1, h2, h3⟩
  · subst h1; subst h2
    simp
  · refine List.mem_cons_of_mem _ (List.mem_filter.mpr ⟨zLs_mem G L 0 k w h2 hw, ?_⟩)
    have e1 : (0 + k == i) = false := by simpa using h1
    rw [e1]
    by_cases h4 : (ze G w).category = 2
    · have h5 := zlong_cat G w h4
      have : ¬ (k + 1 = i) := fun q => h3 ⟨q, h5⟩
      simp [this]
    · simp [h4]
theorem zst2_has {G : zG} {ls : Array Slot} {nL : Nat} {L : List zV} {i : Nat} {v : zV} (h : lv_has ls nL ((i, ze G v) :: (zLs G 0 L).filter (fun q => !(q.1 == i) && (!(q.1 == i + 1) && !(q.1 + 1 == i && q.2.category == 2))))) : lv_has ls nL (zLs G 0 (zst2 L i v)) := by
  refine ⟨h.1, h.2.1, fun q hq => h.2.2 q ?_⟩
  obtain ⟨k, w, rfl, hk, hw⟩ := zLs_of G _ 0 q hq
  rcases zst_at _ i v k w hk hw with ⟨h1, h2⟩ | ⟨h1, h2, h3⟩
  · subst h1; subst h2
    simp
  · rcases zst_at L (i + 1) zN k w h2 hw with ⟨-, h5⟩ | ⟨h5, h6, -⟩
    · exact absurd h5 hw
    · refine List.mem_cons_of_mem _ (List.mem_filter.mpr ⟨zLs_mem G L 0 k w h6 hw, ?_⟩)
      have e1 : (0 + k == i) = false := by simpa using h1
      have e2 : (0 + k == i + 1) = false := by simpa using h5
      rw [e1, e2]
      by_cases h4 : (ze G w).category = 2
      · have h5 := zlong_cat G w h4
        have : ¬ (k + 1 = i) := fun q => h3 ⟨q, h5⟩
        simp [this]
      · simp [h4]

theorem z_istore_n {f : Fin 4} {x : Int} (hd : decode y.2.1 pc = .ok (.istore_n f, 1)) (hi : (f : Nat) < L.length) (k : zA y d E0 E' P (pc + 1) (zst L f (zI x)) S m E) : zA y d E0 E' P pc L (zI x :: S) m E := by
  intro G p l e s mid args below meth c H locs ls cx hH hS hl hL okL okS g1 g2
  refine lv_istore_n cx.1 cx.2.1 hd rfl hl (by omega) rfl (fun ls' hl' => ?_)
  have kk := k G p l e s mid args below meth c H locs ls' cx hH hS (zst_has hl') (by rw [zst_len]; exact hL) (zst_ok okL (zok_h okS)) (zok_t okS) g1 g2
  exact kk
theorem z_istore {i : Nat} {x : Int} (hd : decode y.2.1 pc = .ok (.istore i, 2)) (hi : i < L.length) (k : zA y d E0 E' P (pc + 2) (zst L i (zI x)) S m E) : zA y d E0 E' P pc L (zI x :: S) m E := by
  intro G p l e s mid args below meth c H locs ls cx hH hS hl hL okL okS g1 g2
  refine lv_istore cx.1 cx.2.1 hd hl (by omega) rfl (fun ls' hl' => ?_)
  have kk := k G p l e s mid args below meth c H locs ls' cx hH hS (zst_has hl') (by rw [zst_len]; exact hL) (zst_ok okL (zok_h okS)) (zok_t okS) g1 g2
  exact kk

theorem z_lstore_n {f : Fin 4} {x : Int} (hd : decode y.2.1 pc = .ok (.lstore_n f, 1)) (hi : (f : Nat) + 1 < L.length) (k : zA y d E0 E' P (pc + 1) (zst2 L f (zJ x)) S m E) : zA y d E0 E' P pc L (zJ x :: S) m E := by
  intro G p l e s mid args below meth c H locs ls cx hH hS hl hL okL okS g1 g2
  refine lv_lstore_n cx.1 cx.2.1 hd rfl hl (by omega) rfl (fun ls' hl' => ?_)
  have kk := k G p l e s mid args below meth c H locs ls' cx hH hS (zst2_has hl') (by rw [zst2, zst_len, zst_len]; exact hL) (zst_ok (zst_ok okL trivial) (zok_h okS)) (zok_t okS) g1 g2
  exact kk
theorem z_lstore {i : Nat} {x : Int} (hd : decode y.2.1 pc = .ok (.lstore i, 2)) (hi : i + 1 < L.length) (k : zA y d E0 E' P (pc + 2) (zst2 L i (zJ x)) S m E) : zA y d E0 E' P pc L (zJ x :: S) m E := by
  intro G p l e s mid args below meth c H locs ls cx hH hS hl hL okL okS g1 g2
  refine lv_lstore cx.1 cx.2.1 hd hl (by omega) rfl (fun ls' hl' => ?_)
  have kk := k G p l e s mid args below meth c H locs ls' cx hH hS (zst2_has hl') (by rw [zst2, zst_len, zst_len]; exact hL) (zst_ok (zst_ok okL trivial) (zok_h okS)) (zok_t okS) g1 g2
  exact kk

theorem z_astore_n {f : Fin 4} {x : Int} (hd : decode y.2.1 pc = .ok (.astore_n f, 1)) (hi : (f : Nat) < L.length) (k : zA y d E0 E' P (pc + 1) (zst L f (zP x)) S m E) : zA y d E0 E' P pc L (zP x :: S) m E := by
  intro G p l e s mid args below meth c H locs ls cx hH hS hl hL okL okS g1 g2
  refine lv_astore_n cx.1 cx.2.1 hd rfl hl (by omega) rfl (fun ls' hl' => ?_)
  have kk := k G p l e s mid args below meth c H locs ls' cx hH hS (zst_has hl') (by rw [zst_len]; exact hL) (zst_ok okL (zok_h okS)) (zok_t okS) g1 g2
  exact kk
theorem z_astore {i : Nat} {x : Int} (hd : decode y.2.1 pc = .ok (.astore i, 2)) (hi : i < L.length) (k : zA y d E0 E' P (pc + 2) (zst L i (zP x)) S m E) : zA y d E0 E' P pc L (zP x :: S) m E := by
  intro G p l e s mid args below meth c H locs ls cx hH hS hl hL okL okS g1 g2
  refine lv_astore cx.1 cx.2.1 hd hl (by omega) rfl (fun ls' hl' => ?_)
  have kk := k G p l e s mid args below meth c H locs ls' cx hH hS (zst_has hl') (by rw [zst_len]; exact hL) (zst_ok okL (zok_h okS)) (zok_t okS) g1 g2
  exact kk

theorem z_iinc {i : Nat} {n x : Int} (hd : decode y.2.1 pc = .ok (.iinc i n, 3)) (hx : L[i]? = some (zI x)) (k : zA y d E0 E' P (pc + 3) (zst L i (zI (w32 (x + n)))) S m E) : zA y d E0 E' P pc L S m E := by
  intro G p l e s mid args below meth c H locs ls cx hH hS hl hL okL okS g1 g2
  have hi : i < L.length := (List.getElem?_eq_some_iff.mp hx).1
  obtain ⟨q, hq⟩ := List.getElem?_of_mem (zLs_mem G L 0 i (zI x) hx (by simp))
  refine lv_iinc cx.1 cx.2.1 hd hl (k := q) (by simpa [ze] using hq) (v := Int32.ofInt (w32 (x + n))) (by rw [w32_of, Int32.ofInt_add]) (by omega) rfl (fun ls' hl' => ?_)
  have kk := k G p l e s mid args below meth c H locs ls' cx hH hS (zst_has (v := zI (w32 (x + n))) hl') (by rw [zst_len]; exact hL) (zst_ok okL (show zok (zI _) from zr32_of _)) okS g1 g2
  exact kk

theorem z_dup {v : zV} (hd : decode y.2.1 pc = .ok (.dup, 1)) (hv : zlong v = false) (k : zA y d E0 E' P (pc + 1) L (v :: v :: S) m E) : zA y d E0 E' P pc L (v :: S) m E := by
  intro G p l e s mid args below meth c H locs ls cx hH hS hl hL okL okS g1 g2
  have kk := k G p l e s mid args below meth c H locs ls cx hH hS hl hL okL (zok_p (zok_h okS) okS) g1 g2
  exact lv_dup cx.1 cx.2.1 hd (by rcases lv_cat (ze G v) with h | h; exact h; rw [zlong_cat G v h] at hv; cases hv) kk
theorem z_dup2 {u v : zV} (hd : decode y.2.1 pc = .ok (.dup2, 1)) (hv : zlong v = false) (hu : zlong u = false) (k : zA y d E0 E' P (pc + 1) L (v :: u :: v :: u :: S) m E) : zA y d E0 E' P pc L (v :: u :: S) m E := by
  intro G p l e s mid args below meth c H locs ls cx hH hS hl hL okL okS g1 g2
  have kk := k G p l e s mid args below meth c H locs ls cx hH hS hl hL okL (zok_p (zok_h okS) (zok_p (zok_h (zok_t okS)) okS)) g1 g2
  exact lv_dup2_11 cx.1 cx.2.1 hd (by rcases lv_cat (ze G v) with h | h; exact h; rw [zlong_cat G v h] at hv; cases hv) (by rcases lv_cat (ze G u) with h | h; exact h; rw [zlong_cat G u h] at hu; cases hu) kk
theorem z_pop {v : zV} (hd : decode y.2.1 pc = .ok (.pop, 1)) (hv : zlong v = false) (k : zA y d E0 E' P (pc + 1) L S m E) : zA y d E0 E' P pc L (v :: S) m E := by
  intro G p l e s mid args below meth c H locs ls cx hH hS hl hL okL okS g1 g2
  have kk := k G p l e s mid args below meth c H locs ls cx hH hS hl hL okL (zok_t okS) g1 g2
  exact lv_pop cx.1 cx.2.1 hd (by rcases lv_cat (ze G v) with h | h; exact h; rw [zlong_cat G v h] at hv; cases hv) kk
theorem z_pop2 {x : Int} (hd : decode y.2.1 pc = .ok (.pop2, 1)) (k : zA y d E0 E' P (pc + 1) L S m E) : zA y d E0 E' P pc L (zJ x :: S) m E := by
  intro G p l e s mid args below meth c H locs ls cx hH hS hl hL okL okS g1 g2
  have kk := k G p l e s mid args below meth c H locs ls cx hH hS hl hL okL (zok_t okS) g1 g2
  exact lv_pop2_2 cx.1 cx.2.1 hd rfl kk
theorem z_goto {off : Int} {tgt : Nat} (hd : decode y.2.1 pc = .ok (.goto off, 3)) (ht : (pc : Int) + off = (tgt : Int)) (k : zA y d E0 E' P tgt L S m E) : zA y d E0 E' P pc L S m E := by
  intro G p l e s mid args below meth c H locs ls cx hH hS hl hL okL okS g1 g2
  have kk := k G p l e s mid args below meth c H locs ls cx hH hS hl hL okL okS g1 g2
  exact lv_goto cx.1 cx.2.1 hd ht kk

-- kit: x = y | x = 0
theorem z_icmp_eq {a b off : Int} {tgt : Nat} (hd : decode y.2.1 pc = .ok (.if_icmp .eq off, 3)) (ht : (pc : Int) + off = (tgt : Int)) (kt : a = b → zA y d E0 E' P tgt L S m E) (kf : ¬ (a = b) → zA y d E0 E' P (pc + 3) L S m E) : zA y d E0 E' P pc L (zI b :: zI a :: S) m E := by
  intro G p l e s mid args below meth c H locs ls cx hH hS hl hL okL okS g1 g2
  have hb : zr32 b := zok_h okS
  have ha : zr32 a := zok_h (zok_t okS)
  have q := z32_eq ha hb
  refine lv_icmp_eq cx.1 cx.2.1 hd ht (fun h => ?_) (fun h => ?_)
  · exact kt (by first | exact q.mp h | exact fun z => h (q.mpr z)) G p l e s mid args below meth c H locs ls cx hH hS hl hL okL (zok_t (zok_t okS)) g1 g2
  · exact kf (by first | exact fun z => h (q.mpr z) | exact fun z => z (q.mp (Classical.not_not.mp h)) | exact fun z => z (q.mp h)) G p l e s mid args below meth c H locs ls cx hH hS hl hL okL (zok_t (zok_t okS)) g1 g2
theorem z_if_eq {a off : Int} {tgt : Nat} (hd : decode y.2.1 pc = .ok (.ifCond .eq off, 3)) (ht : (pc : Int) + off = (tgt : Int)) (kt : a = 0 → zA y d E0 E' P tgt L S m E) (kf : ¬ (a = 0) → zA y d E0 E' P (pc + 3) L S m E) : zA y d E0 E' P pc L (zI a :: S) m E := by
  intro G p l e s mid args below meth c H locs ls cx hH hS hl hL okL okS g1 g2
  have hb : zr32 0 := zr32_0
  have ha : zr32 a := zok_h okS
  have q := z32_eq ha hb
  refine lv_if_eq cx.1 cx.2.1 hd ht (fun h => ?_) (fun h => ?_)
  · exact kt (by first | exact q.mp h | exact fun z => h (q.mpr z)) G p l e s mid args below meth c H locs ls cx hH hS hl hL okL (zok_t okS) g1 g2
  · exact kf (by first | exact fun z => h (q.mpr z) | exact fun z => z (q.mp (Classical.not_not.mp h)) | exact fun z => z (q.mp h)) G p l e s mid args below meth c H locs ls cx hH hS hl hL okL (zok_t okS) g1 g2

-- kit: ¬ x = y | ¬ x = 0
theorem z_icmp_ne {a b off : Int} {tgt : Nat} (hd : decode y.2.1 pc = .ok (.if_icmp .ne off, 3)) (ht : (pc : Int) + off = (tgt : Int)) (kt : a ≠ b → zA y d E0 E' P tgt L S m E) (kf : ¬ (a ≠ b) → zA y d E0 E' P (pc + 3) L S m E) : zA y d E0 E' P pc L (zI b :: zI a :: S) m E := by
  intro G p l e s mid args below meth c H locs ls cx hH hS hl hL okL okS g1 g2
  have hb : zr32 b := zok_h okS
  have ha : zr32 a := zok_h (zok_t okS)
  have q := z32_eq ha hb
  refine lv_icmp_ne cx.1 cx.2.1 hd ht (fun h => ?_) (fun h => ?_)
  · exact kt (by first | exact q.mp h | exact fun z => h (q.mpr z)) G p l e s mid args below meth c H locs ls cx hH hS hl hL okL (zok_t (zok_t okS)) g1 g2
  · exact kf (by first | exact fun z => h (q.mpr z) | exact fun z => z (q.mp (Classical.not_not.mp h)) | exact fun z => z (q.mp h)) G p l e s mid args below meth c H locs ls cx hH hS hl hL okL (zok_t (zok_t okS)) g1 g2
theorem z_if_ne {a off : Int} {tgt : Nat} (hd : decode y.2.1 pc = .ok (.ifCond .ne off, 3)) (ht : (pc : Int) + off = (tgt : Int)) (kt : a ≠ 0 → zA y d E0 E' P tgt L S m E) (kf : ¬ (a ≠ 0) → zA y d E0 E' P (pc + 3) L S m E) : zA y d E0 E' P pc L (zI a :: S) m E := by
  intro G p l e s mid args below meth c H locs ls cx hH hS hl hL okL okS g1 g2
  have hb : zr32 0 := zr32_0
  have ha : zr32 a := zok_h okS
  have q := z32_eq ha hb
  refine lv_if_ne cx.1 cx.2.1 hd ht (fun h => ?_) (fun h => ?_)
  · exact kt (by first | exact q.mp h | exact fun z => h (q.mpr z)) G p l e s mid args below meth c H locs ls cx hH hS hl hL okL (zok_t okS) g1 g2
  · exact kf (by first | exact fun z => h (q.mpr z) | exact fun z => z (q.mp (Classical.not_not.mp h)) | exact fun z => z (q.mp h)) G p l e s mid args below meth c H locs ls cx hH hS hl hL okL (zok_t okS) g1 g2

-- kit: x < y | x < 0
theorem z_icmp_lt {a b off : Int} {tgt : Nat} (hd : decode y.2.1 pc = .ok (.if_icmp .lt off, 3)) (ht : (pc : Int) + off = (tgt : Int)) (kt : a < b → zA y d E0 E' P tgt L S m E) (kf : ¬ (a < b) → zA y d E0 E' P (pc + 3) L S m E) : zA y d E0 E' P pc L (zI b :: zI a :: S) m E := by
  intro G p l e s mid args below meth c H locs ls cx hH hS hl hL okL okS g1 g2
  have hb : zr32 b := zok_h okS
  have ha : zr32 a := zok_h (zok_t okS)
  have q := z32_lt ha hb
  refine lv_icmp_lt cx.1 cx.2.1 hd ht (fun h => ?_) (fun h => ?_)
  · exact kt (by first | exact q.mp h | exact fun z => h (q.mpr z)) G p l e s mid args below meth c H locs ls cx hH hS hl hL okL (zok_t (zok_t okS)) g1 g2
  · exact kf (by first | exact fun z => h (q.mpr z) | exact fun z => z (q.mp (Classical.not_not.mp h)) | exact fun z => z (q.mp h)) G p l e s mid args below meth c H locs ls cx hH hS hl hL okL (zok_t (zok_t okS)) g1 g2
theorem z_if_lt {a off : Int} {tgt : Nat} (hd : decode y.2.1 pc = .ok (.ifCond .lt off, 3)) (ht : (pc : Int) + off = (tgt : Int)) (kt : a < 0 → zA y d E0 E' P tgt L S m E) (kf : ¬ (a < 0) → zA y d E0 E' P (pc + 3) L S m E) : zA y d E0 E' P pc L (zI a :: S) m E := by
  intro G p l e s mid args below meth c H locs ls cx hH hS hl hL okL okS g1 g2
  have hb : zr32 0 := zr32_0
  have ha : zr32 a := zok_h okS
  have q := z32_lt ha hb
  refine lv_if_lt cx.1 cx.2.1 hd ht (fun h => ?_) (fun h => ?_)
  · exact kt (by first | exact q.mp h | exact fun z => h (q.mpr z)) G p l e s mid args below meth c H locs ls cx hH hS hl hL okL (zok_t okS) g1 g2
  · exact kf (by first | exact fun z => h (q.mpr z) | exact fun z => z (q.mp (Classical.not_not.mp h)) | exact fun z => z (q.mp h)) G p l e s mid args below meth c H locs ls cx hH hS hl hL okL (zok_t okS) g1 g2

-- kit: y ≤ x | 0 ≤ x
theorem z_icmp_ge {a b off : Int} {tgt : Nat} (hd : decode y.2.1 pc = .ok (.if_icmp .ge off, 3)) (ht : (pc : Int) + off = (tgt : Int)) (kt : b ≤ a → zA y d E0 E' P tgt L S m E) (kf : ¬ (b ≤ a) → zA y d E0 E' P (pc + 3) L S m E) : zA y d E0 E' P pc L (zI b :: zI a :: S) m E := by
  intro G p l e s mid args below meth c H locs ls cx hH hS hl hL okL okS g1 g2
  have hb : zr32 b := zok_h okS
  have ha : zr32 a := zok_h (zok_t okS)
  have q := z32_le hb ha
  refine lv_icmp_ge cx.1 cx.2.1 hd ht (fun h => ?_) (fun h => ?_)
  · exact kt (by first | exact q.mp h | exact fun z => h (q.mpr z)) G p l e s mid args below meth c H locs ls cx hH hS hl hL okL (zok_t (zok_t okS)) g1 g2
  · exact kf (by first | exact fun z => h (q.mpr z) | exact fun z => z (q.mp (Classical.not_not.mp h)) | exact fun z => z (q.mp h)) G p l e s mid args below meth c H locs ls cx hH hS hl hL okL (zok_t (zok_t okS)) g1 g2
theorem z_if_ge {a off : Int} {tgt : Nat} (hd : decode y.2.1 pc = .ok (.ifCond .ge off, 3)) (ht : (pc : Int) + off = (tgt : Int)) (kt : 0 ≤ a → zA y d E0 E' P tgt L S m E) (kf : ¬ (0 ≤ a) → zA y d E0 E' P (pc + 3) L S m E) : zA y d E0 E' P pc L (zI a :: S) m E := by
  intro G p l e s mid args below meth c H locs ls cx hH hS hl hL okL okS g1 g2
  have hb : zr32 0 := zr32_0
  have ha : zr32 a := zok_h okS
  have q := z32_le hb ha
  refine lv_if_ge cx.1 cx.2.1 hd ht (fun h => ?_) (fun h => ?_)
  · exact kt (by first | exact q.mp h | exact fun z => h (q.mpr z)) G p l e s mid args below meth c H locs ls cx hH hS hl hL okL (zok_t okS) g1 g2
  · exact kf (by first | exact fun z => h (q.mpr z) | exact fun z => z (q.mp (Classical.not_not.mp h)) | exact fun z => z (q.mp h)) G p l e s mid args below meth c H locs ls cx hH hS hl hL okL (zok_t okS) g1 g2

-- kit: y < x | 0 < x
theorem z_icmp_gt {a b off : Int} {tgt : Nat} (hd : decode y.2.1 pc = .ok (.if_icmp .gt off, 3)) (ht : (pc : Int) + off = (tgt : Int)) (kt : b < a → zA y d E0 E' P tgt L S m E) (kf : ¬ (b < a) → zA y d E0 E' P (pc + 3) L S m E) : zA y d E0 E' P pc L (zI b :: zI a :: S) m E := by
  intro G p l e s mid args below meth c H locs ls cx hH hS hl hL okL okS g1 g2
  have hb : zr32 b := zok_h okS
  have ha : zr32 a := zok_h (zok_t okS)
  have q := z32_lt hb ha
  refine lv_icmp_gt cx.1 cx.2.1 hd ht (fun h => ?_) (fun h => ?_)
  · exact kt (by first | exact q.mp h | exact fun z => h (q.mpr z)) G p l e s mid args below meth c H locs ls cx hH hS hl hL okL (zok_t (zok_t okS)) g1 g2
  · exact kf (by first | exact fun z => h (q.mpr z) | exact fun z => z (q.mp (Classical.not_not.mp h)) | exact fun z => z (q.mp h)) G p l e s mid args below meth c H locs ls cx hH hS hl hL okL (zok_t (zok_t okS)) g1 g2
theorem z_if_gt {a off : Int} {tgt : Nat} (hd : decode y.2.1 pc = .ok (.ifCond .gt off, 3)) (ht : (pc : Int) + off = (tgt : Int)) (kt : 0 < a → zA y d E0 E' P tgt L S m E) (kf : ¬ (0 < a) → zA y d E0 E' P (pc + 3) L S m E) : zA y d E0 E' P pc L (zI a :: S) m E := by
  intro G p l e s mid args below meth c H locs ls cx hH hS hl hL okL okS g1 g2
  have hb : zr32 0 := zr32_0
  have ha : zr32 a := zok_h okS
  have q := z32_lt hb ha
  refine lv_if_gt cx.1 cx.2.1 hd ht (fun h => ?_) (fun h => ?_)
  · exact kt (by first | exact q.mp h | exact fun z => h (q.mpr z)) G p l e s mid args below meth c H locs ls cx hH hS hl hL okL (zok_t okS) g1 g2
  · exact kf (by first | exact fun z => h (q.mpr z) | exact fun z => z (q.mp (Classical.not_not.mp h)) | exact fun z => z (q.mp h)) G p l e s mid args below meth c H locs ls cx hH hS hl hL okL (zok_t okS) g1 g2

-- kit: x ≤ y | x ≤ 0
theorem z_icmp_le {a b off : Int} {tgt : Nat} (hd : decode y.2.1 pc = .ok (.if_icmp .le off, 3)) (ht : (pc : Int) + off = (tgt : Int)) (kt : a ≤ b → zA y d E0 E' P tgt L S m E) (kf : ¬ (a ≤ b) → zA y d E0 E' P (pc + 3) L S m E) : zA y d E0 E' P pc L (zI b :: zI a :: S) m E := by
  intro G p l e s mid args below meth c H locs ls cx hH hS hl hL okL okS g1 g2
  have hb : zr32 b := zok_h okS
  have ha : zr32 a := zok_h (zok_t okS)
  have q := z32_le ha hb
  refine lv_icmp_le cx.1 cx.2.1 hd ht (fun h => ?_) (fun h => ?_)
  · exact kt (by first | exact q.mp h | exact fun z => h (q.mpr z)) G p l e s mid args below meth c H locs ls cx hH hS hl hL okL (zok_t (zok_t okS)) g1 g2
  · exact kf (by first | exact fun z => h (q.mpr z) | exact fun z => z (q.mp (Classical.not_not.mp h)) | exact fun z => z (q.mp h)) G p l e s mid args below meth c H locs ls cx hH hS hl hL okL (zok_t (zok_t okS)) g1 g2
theorem z_if_le {a off : Int} {tgt : Nat} (hd : decode y.2.1 pc = .ok (.ifCond .le off, 3)) (ht : (pc : Int) + off = (tgt : Int)) (kt : a ≤ 0 → zA y d E0 E' P tgt L S m E) (kf : ¬ (a ≤ 0) → zA y d E0 E' P (pc + 3) L S m E) : zA y d E0 E' P pc L (zI a :: S) m E := by
  intro G p l e s mid args below meth c H locs ls cx hH hS hl hL okL okS g1 g2
  have hb : zr32 0 := zr32_0
  have ha : zr32 a := zok_h okS
  have q := z32_le ha hb
  refine lv_if_le cx.1 cx.2.1 hd ht (fun h => ?_) (fun h => ?_)
  · exact kt (by first | exact q.mp h | exact fun z => h (q.mpr z)) G p l e s mid args below meth c H locs ls cx hH hS hl hL okL (zok_t okS) g1 g2
  · exact kf (by first | exact fun z => h (q.mpr z) | exact fun z => z (q.mp (Classical.not_not.mp h)) | exact fun z => z (q.mp h)) G p l e s mid args below meth c H locs ls cx hH hS hl hL okL (zok_t okS) g1 g2

theorem z_tabOut {dflt lo hi x : Int} {offs : Array Int} {len tgt : Nat} (hd : decode y.2.1 pc = .ok (.tableswitch dflt lo hi offs, len)) (h : x < lo ∨ hi < x) (ht : (pc : Int) + dflt = (tgt : Int)) (k : zA y d E0 E' P tgt L S m E) : zA y d E0 E' P pc L (zI x :: S) m E := by
  intro G p l e s mid args below meth c H locs ls cx hH hS hl hL okL okS g1 g2
  have kk := k G p l e s mid args below meth c H locs ls cx hH hS hl hL okL (zok_t okS) g1 g2
  exact lv_tableOut cx.1 cx.2.1 hd (by rw [z32_toInt (zok_h okS)]; exact h) ht kk
theorem z_tabIn {dflt lo hi x off : Int} {offs : Array Int} {len tgt : Nat} (hd : decode y.2.1 pc = .ok (.tableswitch dflt lo hi offs, len)) (h1 : ¬ x < lo) (h2 : ¬ hi < x) (ho : offs[(x - lo).toNat]? = some off) (ht : (pc : Int) + off = (tgt : Int)) (k : zA y d E0 E' P tgt L S m E) : zA y d E0 E' P pc L (zI x :: S) m E := by
  intro G p l e s mid args below meth c H locs ls cx hH hS hl hL okL okS g1 g2
  have kk := k G p l e s mid args below meth c H locs ls cx hH hS hl hL okL (zok_t okS) g1 g2
  have q := z32_toInt (x := x) (zok_h okS)
  exact lv_tableIn cx.1 cx.2.1 hd (by rw [q]; exact h1) (by rw [q]; exact h2) (by rw [q]; exact ho) ht kk
theorem z_look {dflt x off : Int} {ps : Array (Int × Int)} {len tgt : Nat} (hd : decode y.2.1 pc = .ok (.lookupswitch dflt ps, len)) (hp : (ps.toList.zip (ps.toList.drop 1)).all (fun (a, next) => a.1 < next.1) = true) (ho : Op.lookupswitch.offset ps.toList dflt x = off) (ht : (pc : Int) + off = (tgt : Int)) (k : zA y d E0 E' P tgt L S m E) : zA y d E0 E' P pc L (zI x :: S) m E := by
  intro G p l e s mid args below meth c H locs ls cx hH hS hl hL okL okS g1 g2
  have kk := k G p l e s mid args below meth c H locs ls cx hH hS hl hL okL (zok_t okS) g1 g2
  exact lv_lookup cx.1 cx.2.1 hd hp (by rw [z32_toInt (zok_h okS)]; exact ho) ht kk
end ZR1
