/-! making cells, leaving, calling -/
def znew (E : zE) (kd : Nat) (n : Int) (sl : Nat) : zE := (fun a => if a = (E.2.1 : Int) then (kd, n) else E.1 a, E.2.1 + 1, E.2.2 + sl)
def zfill (m : zM) (a : Int) (f : Int → Int) : zM := fun b i => if b = a then f i else m b i
theorem zwl_new {G : zG} {E : zE} {m : zM} {kd sl : Nat} {n : Int} {f : Int → Int} : zwl G (znew E kd n sl) (zfill m E.2.1 f) = zwl G E m ++ [(G.1 + E.2.1, zent G (znew E kd n sl) (zfill m E.2.1 f) E.2.1)] := by
  unfold zwl
  rw [show (znew E kd n sl).2.1 = E.2.1 + 1 from rfl, List.range_succ, List.map_append]
  congr 1
  apply List.map_congr_left
  intro k hk
  have hk : k < E.2.1 := List.mem_range.mp hk
  have hne : ¬ (k : Int) = (E.2.1 : Int) := by omega
  simp only [zent, znew, zfill, if_neg hne]
theorem zH_new {G : zG} {E : zE} {m : zM} {H H1 : Heap} {kd sl : Nat} {n : Int} {f : Int → Int} (hH : zH G E m H) (he : va_at G.2.1 zcl (G.1 + E.2.1, zent G (znew E kd n sl) (zfill m E.2.1 f) E.2.1) H1) (z : H1.size = H.size + 1) (oq : ∀ q, q < H.size → H1[q]? = H[q]?) (hn : 0 ≤ n ∧ n < 2147483648) (ok : ∀ j : Nat, zokS (zsk (znew E kd n sl) E.2.1 j) (f j)) : zH G (znew E kd n sl) (zfill m E.2.1 f) H1 := by
  refine ⟨?_, ?_, ?_, ?_⟩
  · rw [zwl_new]
    refine (hH.1.kept (fun k q hq => oq _ ((hH.1 k q hq).lt))).app (fun k q hq => ?_)
    have hz : k < 1 := (List.getElem?_eq_some_iff.mp hq).1
    rw [show k = 0 by omega] at hq
    cases hq
    exact he
  · rw [z, hH.2.1]
    simp [znew, Nat.add_assoc]
  · intro a j
    by_cases ha : a = (E.2.1 : Int)
    · subst ha
      simpa [zfill] using ok j
    · have := hH.2.2.1 a j
      simpa [zfill, zsk, znew, ha] using this
  · intro a ha
    by_cases h : a = (E.2.1 : Int)
    · subst h
      simp only [znew, if_true]
      exact ⟨by omega, by omega, hn.1, hn.2⟩
    · simp only [znew, if_neg h] at ha ⊢
      have := hH.2.2.2 a ha
      omega
theorem zS_new {A : Nat → Prop} {H0 H H1 : Heap} {locs : List Loc} (hS : va_S A H0 H locs) (z : H1.size = H.size + 1) (oq : ∀ q, q < H.size → H1[q]? = H[q]?) : va_S A H0 H1 locs :=
  ⟨Nat.le_trans hS.1 (by omega), fun x h1 h2 => (oq x (Nat.lt_of_lt_of_le h1 hS.1)).trans (hS.2.1 x h1 h2), hS.2.2⟩
theorem zbl1 (t : FieldType) : zokS (zfk t) (if zfk t = 2 then -1 else 0) := by
  cases t <;> simp [zfk, zokS, zr32, zr64]
theorem zbl2 (G : zG) (t : FieldType) (h1 : t ≠ .float) (h2 : t ≠ .double) : defaultValue t = zef G t (if zfk t = 2 then -1 else 0) := by
  cases t <;> first | exact absurd rfl h1 | exact absurd rfl h2 | simp [zfk, zef, defaultValue]
section ZR3
variable {y : zY} {d : Nat} {E0 E' E : zE} {P : Option zV → zM → Prop} {pc : Nat} {L S : List zV} {m : zM}
theorem z_newa0 {n : Int} {atype : ArrayType} {kd : Nat} {ti : Nat} (hd : decode y.2.1 pc = .ok (.newarray atype, 2)) (hw : Cond.arrayClass (newarray.typeOf atype) ∈ zgood) (h0 : 0 ≤ n) (hn : n ≤ 67108864) (hc : E.2.1 + 1 ≤ E'.2.1) (hsl : E.2.2 + n.toNat ≤ E'.2.2)
    (hbyt : componentBytes (newarray.typeOf atype) ≤ 8) (hti : ∀ G, (ztys G)[ti]? = some (G.2.2.1 ti, newarray.typeOf atype))
    (hra : ∀ (s : State) (cA : ClassId), va_RA s cA (newarray.typeOf atype) → s.vm.findClass ("[" ++ (newarray.typeOf atype).toString) = some cA)
    (hent : ∀ G, va_at G.2.1 zcl (G.1 + E.2.1, zent G (znew E kd n n.toNat) (zfill m E.2.1 fun _ => 0) E.2.1) = fun H1 : Heap => H1[G.1 + E.2.1]? = some (arrV (G.2.2.1 ti) n.toNat (fun _ => defaultValue (newarray.typeOf atype))))
    (ok : ∀ j : Nat, zokS (zsk (znew E kd n n.toNat) E.2.1 j) 0)
    (kk : zA y d E0 E' P (pc + 2) L (zP E.2.1 :: S) (zfill m E.2.1 fun _ => 0) (znew E kd n n.toNat)) : zA y d E0 E' P pc L (zI n :: S) m E := by
  intro G p l e s mid args below meth c H locs ls cx hH hS hl hL okL okS g1 g2
  have hr : zr32 n := zok_h okS
  have e1 : (Int32.ofInt n).toNatClampNeg = n.toNat := z32_clamp hr h0
  refine va_newaK cx.1 cx.2.1 (cx.2.2.2.2.2.1 _ hw) rfl hd rfl (fun h => ?_) e1 (Nat.le_trans (Nat.mul_le_mul_left _ hbyt) (by omega)) (by show _ ≤ E'.2.1 - E0.2.1; omega) (by show _ ≤ E'.2.2 - E0.2.2; omega) hH.2.1 fun H1 cA e2 z oq hA hfc => ?_
  · rw [z32_0, z32_lt hr zr32_0] at h; omega
  · have hK := cx.2.2.2.2.2.2.2.2.1
    have hcA : cA = G.2.2.1 ti := Option.some.inj (hfc.symm.trans (hra s _ (hK.2 ti _ (hti G)).2))
    subst hcA
    have z1 : H1.size = H.size + 1 := by rw [z, hH.2.1]
    have oq1 : ∀ q, q < H.size → H1[q]? = H[q]? := fun q hq => oq q (by rw [← hH.2.1]; exact hq)
    have kk := kk G p l e s mid args below meth c H1 locs ls cx (zH_new hH (by rw [hent]; exact e2) z1 oq1 ⟨h0, by omega⟩ ok) (zS_new hS z1 oq1) hl hL okL (zok_p trivial (zok_t okS)) (by show _ ≤ E.2.1 + 1; omega) (by show _ ≤ E.2.2 + _; omega)
    have c1 : (znew E kd n n.toNat).2.1 - E0.2.1 = E.2.1 - E0.2.1 + 1 := by show E.2.1 + 1 - E0.2.1 = _; omega
    have c2 : (znew E kd n n.toNat).2.2 - E0.2.2 = E.2.2 - E0.2.2 + n.toNat := by show E.2.2 + n.toNat - E0.2.2 = _; omega
    rw [c1, c2] at kk
    exact kk
theorem z_newi {n : Int} (hd : decode y.2.1 pc = .ok (.newarray .int, 2)) (hw : Cond.arrayClass .int ∈ zgood) (h0 : 0 ≤ n) (hn : n ≤ 67108864) (hc : E.2.1 + 1 ≤ E'.2.1) (hsl : E.2.2 + n.toNat ≤ E'.2.2) (kk : zA y d E0 E' P (pc + 2) L (zP E.2.1 :: S) (zfill m E.2.1 fun _ => 0) (znew E 1 n n.toNat)) : zA y d E0 E' P pc L (zI n :: S) m E :=
  z_newa0 (ti := 0) hd hw h0 hn hc hsl (by decide) (fun G => rfl) (fun s cA h => h) (fun G => by rw [zent_1 (n := n) (by simp [znew])]; funext H1; simp [va_at, vp_cell, zfill, newarray.typeOf, defaultValue]) (fun j => by simp [zsk, znew, zokS, zr32]) kk
theorem z_newl {n : Int} (hd : decode y.2.1 pc = .ok (.newarray .long, 2)) (hw : Cond.arrayClass .long ∈ zgood) (h0 : 0 ≤ n) (hn : n ≤ 67108864) (hc : E.2.1 + 1 ≤ E'.2.1) (hsl : E.2.2 + n.toNat ≤ E'.2.2) (kk : zA y d E0 E' P (pc + 2) L (zP E.2.1 :: S) (zfill m E.2.1 fun _ => 0) (znew E 2 n n.toNat)) : zA y d E0 E' P pc L (zI n :: S) m E :=
  z_newa0 (ti := 1) hd hw h0 hn hc hsl (by decide) (fun G => rfl) (fun s cA h => h) (fun G => by rw [zent_2 (n := n) (by simp [znew])]; funext H1; simp [va_at, vp_cell, zfill, newarray.typeOf, defaultValue]) (fun j => by simp [zsk, znew, zokS, zr64]) kk
theorem z_newb {n : Int} (hd : decode y.2.1 pc = .ok (.newarray .byte, 2)) (hw : Cond.arrayClass .byte ∈ zgood) (h0 : 0 ≤ n) (hn : n ≤ 67108864) (hc : E.2.1 + 1 ≤ E'.2.1) (hsl : E.2.2 + n.toNat ≤ E'.2.2) (kk : zA y d E0 E' P (pc + 2) L (zP E.2.1 :: S) (zfill m E.2.1 fun _ => 0) (znew E 3 n n.toNat)) : zA y d E0 E' P pc L (zI n :: S) m E :=
  z_newa0 (ti := 2) hd hw h0 hn hc hsl (by decide) (fun G => rfl) (fun s cA h => h) (fun G => by rw [zent_3 (n := n) (by simp [znew])]; funext H1; simp [va_at, vp_cell, zfill, newarray.typeOf, defaultValue]) (fun j => by simp [zsk, znew, zokS, zr32]) kk
theorem z_newz {n : Int} (hd : decode y.2.1 pc = .ok (.newarray .boolean, 2)) (hw : Cond.arrayClass .boolean ∈ zgood) (h0 : 0 ≤ n) (hn : n ≤ 67108864) (hc : E.2.1 + 1 ≤ E'.2.1) (hsl : E.2.2 + n.toNat ≤ E'.2.2) (kk : zA y d E0 E' P (pc + 2) L (zP E.2.1 :: S) (zfill m E.2.1 fun _ => 0) (znew E 4 n n.toNat)) : zA y d E0 E' P pc L (zI n :: S) m E :=
  z_newa0 (ti := 3) hd hw h0 hn hc hsl (by decide) (fun G => rfl) (fun s cA h => h) (fun G => by rw [zent_4 (n := n) (by simp [znew])]; funext H1; simp [va_at, vp_cell, zfill, newarray.typeOf, defaultValue]) (fun j => by simp [zsk, znew, zokS, zr32]) kk
theorem z_anew {n : Int} {idx : Nat} (hd : decode y.2.1 pc = .ok (.anewarray idx, 3)) (hw : Cond.classLink y.1.cls idx RX5 ∈ zgood) (h0 : 0 ≤ n) (hn : n ≤ 67108864) (hc : E.2.1 + 1 ≤ E'.2.1) (hsl : E.2.2 + n.toNat ≤ E'.2.2) (kk : zA y d E0 E' P (pc + 3) L (zP E.2.1 :: S) (zfill m E.2.1 fun _ => -1) (znew E 5 n n.toNat)) : zA y d E0 E' P pc L (zI n :: S) m E := by
  intro G p l e s mid args below meth c H locs ls cx hH hS hl hL okL okS g1 g2
  have hr : zr32 n := zok_h okS
  have e1 : (Int32.ofInt n).toNatClampNeg = n.toNat := z32_clamp hr h0
  have h0' : ¬ Int32.ofInt n < 0 := fun h => by rw [z32_0, z32_lt hr zr32_0] at h; omega
  refine W.anew cx.1 cx.2.1 cx.2.2.2.2.1 (cx.2.2.2.2.2.1 _ hw) (va_AO.use cx.2.2.2.2.2.2.2.2.2.1.2.2.2.2.1) rfl hd rfl h0' (by rw [e1]; omega) (by show _ ≤ E'.2.1 - E0.2.1; omega) (by rw [e1]; show _ ≤ E'.2.2 - E0.2.2; omega) fun cA kA comp f1 f2 f3 f4 => ?_
  have hK := cx.2.2.2.2.2.2.2.2.1
  obtain ⟨kA', comp', k1, k2, k3, k4⟩ := (hK.2 4 _ rfl).2
  have hcA : cA = G.2.2.1 4 := Option.some.inj (f1.symm.trans k4)
  subst hcA
  generalize hH1 : H.push ({ cls := G.2.2.1 4, slots := Array.replicate (Int32.ofInt n).toNatClampNeg .null, vm := .none } : Cell) = H1
  have z1 : H1.size = H.size + 1 := by rw [← hH1, Array.size_push]
  have e2 : H1[H.size]? = some (arrV (G.2.2.1 4) n.toNat (fun _ => .null)) := by rw [← hH1, Array.getElem?_push_size, e1, ← arrV_new]
  have oq1 : ∀ q : Nat, q < H.size → H1[q]? = H[q]? := fun q hq => by rw [← hH1, Array.getElem?_push, if_neg (Nat.ne_of_lt hq)]
  rw [hH.2.1] at e2
  have kk := kk G p l e s mid args below meth c H1 locs ls cx (zH_new hH (by rw [zent_5 (n := n) (by simp [znew])]; show H1[_]? = some (vp_cell _ _); rw [e2]; simp [vp_cell, zfill, va_rf]) z1 oq1 ⟨h0, by omega⟩ (fun j => by simp [zsk, znew, zokS])) (zS_new hS z1 oq1) hl hL okL (zok_p trivial (zok_t okS)) (by show _ ≤ E.2.1 + 1; omega) (by show _ ≤ E.2.2 + _; omega)
  have c1 : (znew E 5 n n.toNat).2.1 - E0.2.1 = E.2.1 - E0.2.1 + 1 := by show E.2.1 + 1 - E0.2.1 = _; omega
  have c2 : (znew E 5 n n.toNat).2.2 - E0.2.2 = E.2.2 - E0.2.2 + n.toNat := by show E.2.2 + n.toNat - E0.2.2 = _; omega
  rw [c1, c2] at kk
  rw [e1, hH.2.1]
  exact kk
def zNw (own : String) (idx ci N : Nat) : Prop := ∃ (C : String) (T : u_T), zcl[ci]? = some (C, T, N) ∧ Cond.classLink own idx C ∈ zgood ∧ Cond.instantiable C N ∈ zgood ∧ Cond.initialized C ∈ zgood ∧ ∀ j, j < N → zty ci j ≠ .float ∧ zty ci j ≠ .double
/-- a new object: addresses null (-1), numbers 0 -/
def zblank (ci : Nat) : Int → Int := fun i => if zfk (zty ci i.toNat) = 2 then -1 else 0
theorem z_new {idx ci N : Nat} (hw : zNw y.1.cls idx ci N) (hd : decode y.2.1 pc = .ok (.new idx, 3)) (hc : E.2.1 + 1 ≤ E'.2.1) (hsl : E.2.2 + N ≤ E'.2.2) (hN : N < 100) (kk : zA y d E0 E' P (pc + 3) L (zP E.2.1 :: S) (zfill m E.2.1 (zblank ci)) (znew E (ci + 6) N N)) : zA y d E0 E' P pc L S m E := by
  intro G p l e s mid args below meth c H locs ls cx hH hS hl hL okL okS g1 g2
  obtain ⟨C, T, hcl, w1, w2, w3, w4⟩ := hw
  have hts := cx.2.2.2.2.2.1
  have hK := cx.2.2.2.2.2.2.2.2.1
  have hKn := hK.1 ci _ hcl
  refine W.newcK cx.1 cx.2.1 cx.2.2.2.2.1 (hts _ w1) (hts _ w2) (hts _ w3) rfl hd (by show _ ≤ E'.2.1 - E0.2.1; omega) (by show _ ≤ E'.2.2 - E0.2.2; omega) hKn.2.1 hH.2.1 fun H1 kC hkC e2 z oq => ?_
  have z1 : H1.size = H.size + 1 := by rw [z, hH.2.1]
  have oq1 : ∀ q, q < H.size → H1[q]? = H[q]? := fun q hq => oq q (by rw [← hH.2.1]; exact hq)
  have hok : ∀ j : Nat, zokS (zsk (znew E (ci + 6) N N) E.2.1 j) (zblank ci j) := by
    intro j
    simp only [zsk, znew, if_true, zblank, Int.toNat_natCast]
    exact zbl1 _
  have hat : va_at G.2.1 zcl (G.1 + E.2.1, zent G (znew E (ci + 6) N N) (zfill m E.2.1 (zblank ci)) E.2.1) H1 := by
    rw [zent_obj (n := (N : Int)) (ci := ci) (by simp [znew])]
    refine ⟨_, hcl, (u_born (zty ci) hts (zcl_in hcl) hKn hkC e2 (zcl_ty hcl)).to (fun j hj => ?_)⟩
    have hj : j < N := hj
    simp only [vp_V, List.getD, zcl_nf hcl, List.getElem?_map, List.getElem?_range hj, Option.map_some, Option.getD_some, zfill, if_true, zblank, Int.toNat_natCast]
    exact zbl2 G _ (w4 j hj).1 (w4 j hj).2
  have kk := kk G p l e s mid args below meth c H1 locs ls cx (zH_new hH hat z1 oq1 ⟨by omega, by omega⟩ hok) (zS_new hS z1 oq1) hl hL okL (zok_p trivial okS) (by show _ ≤ E.2.1 + 1; omega) (by show _ ≤ E.2.2 + _; omega)
  have c1 : (znew E (ci + 6) N N).2.1 - E0.2.1 = E.2.1 - E0.2.1 + 1 := by show E.2.1 + 1 - E0.2.1 = _; omega
  have c2 : (znew E (ci + 6) N N).2.2 - E0.2.2 = E.2.2 - E0.2.2 + N := by show E.2.2 + N - E0.2.2 = _; omega
  rw [c1, c2] at kk
  exact kk
theorem z_objInit {idx : Nat} {a : Int} (hd : decode y.2.1 pc = .ok (.invokespecial idx, 3)) (h1 : Cond.methodLink y.1.cls idx objectInit ∈ zgood) (h2 : Cond.instanceMethod objectInit ∈ zgood) (h3 : Cond.code objectInit ⟨#[0xb1]⟩ 1 none ∈ zgood) (hS0 : S = []) (kk : zA y (d + 1) E0 E' P (pc + 3) L S m E) : zA y (d + 1) E0 E' P pc L (zP a :: S) m E := by
  intro G p l e s mid args below meth c H locs ls cx hH hS hl hL okL okS g1 g2
  subst hS0
  have kk := kk G p l e s mid args below meth c H locs ls cx hH hS hl hL okL (zok_t okS) g1 g2
  have hts := cx.2.2.2.2.2.1
  exact W.objInit cx.1 cx.2.1 cx.2.2.2.2.1 (hts _ h1) (hts _ h2) (hts _ h3) rfl (by rw [cx.2.2.1]; exact hl.1) rfl hd (by show 1 ≤ d + 1; omega) (by show 2 * JFrame.monitorRoom _ + 0 + 12 ≤ 64 * (d + 1); simp only [JFrame.monitorRoom]; omega) kk
theorem z_iret {x : Int} (hd : decode y.2.1 pc = .ok (.ireturn, 1)) (hr : y.2.2.2 = some .int) (hE : E = E') (hP : P (some (zI x)) m) : zA y d E0 E' P pc L [zI x] m E := by
  intro G p l e s mid args below meth c H locs ls cx hH hS hl hL okL okS g1 g2
  subst hE
  exact W.iret cx.1 cx.2.1 (cx.2.2.2.1.trans hr) (fun t ht hW => ⟨some (zI x), m, rfl, hP, by rw [ht]; exact hH, fun v h => by cases h; exact zok_h okS, hS.F ht⟩) hS.2.2 hd (hlocks := cx.2.2.2.2.2.2.1)
theorem z_zret {x : Int} (hd : decode y.2.1 pc = .ok (.ireturn, 1)) (hr : y.2.2.2 = some .boolean) (hx : x = 0 ∨ x = 1) (hE : E = E') (hP : P (some (zI x)) m) : zA y d E0 E' P pc L [zI x] m E := by
  intro G p l e s mid args below meth c H locs ls cx hH hS hl hL okL okS g1 g2
  subst hE
  exact W.zret (ty := .boolean) cx.1 cx.2.1 (cx.2.2.2.1.trans hr) (by rcases hx with rfl | rfl <;> rfl) (fun t ht hW => ⟨some (zI x), m, rfl, hP, by rw [ht]; exact hH, fun v h => by cases h; exact zok_h okS, hS.F ht⟩) hS.2.2 hd (hlocks := cx.2.2.2.2.2.2.1)
theorem z_lret {x : Int} (hd : decode y.2.1 pc = .ok (.lreturn, 1)) (hr : y.2.2.2 = some .long) (hE : E = E') (hP : P (some (zJ x)) m) : zA y d E0 E' P pc L [zJ x] m E := by
  intro G p l e s mid args below meth c H locs ls cx hH hS hl hL okL okS g1 g2
  subst hE
  exact W.lret cx.1 cx.2.1 (cx.2.2.2.1.trans hr) (fun t ht hW => ⟨some (zJ x), m, rfl, hP, by rw [ht]; exact hH, fun v h => by cases h; exact zok_h okS, hS.F ht⟩) hS.2.2 hd (hlocks := cx.2.2.2.2.2.2.1)
theorem z_aret {x : Int} {C : String} (hd : decode y.2.1 pc = .ok (.areturn, 1)) (hr : y.2.2.2 = some (.object C)) (hE : E = E') (hP : P (some (zP x)) m) : zA y d E0 E' P pc L [zP x] m E := by
  intro G p l e s mid args below meth c H locs ls cx hH hS hl hL okL okS g1 g2
  subst hE
  exact W.aret cx.1 cx.2.1 (cx.2.2.2.1.trans hr) (Or.inl ⟨_, rfl⟩) (Or.inr ⟨_, rfl⟩) (fun t ht hW => ⟨some (zP x), m, rfl, hP, by rw [ht]; exact hH, fun v h => by cases h; exact zok_h okS, hS.F ht⟩) hS.2.2 hd (hlocks := cx.2.2.2.2.2.2.1)
theorem z_vret (hd : decode y.2.1 pc = .ok (.return_, 1)) (hr : y.2.2.2 = none) (hE : E = E') (hP : P none m) : zA y d E0 E' P pc L [] m E := by
  intro G p l e s mid args below meth c H locs ls cx hH hS hl hL okL okS g1 g2
  subst hE
  exact W.vret cx.1 cx.2.1 (cx.2.2.2.1.trans hr) (fun t ht hW => ⟨none, m, rfl, hP, by rw [ht]; exact hH, (fun v h => by cases h), hS.F ht⟩) hS.2.2 hd (hlocks := cx.2.2.2.2.2.2.1)
end ZR3
