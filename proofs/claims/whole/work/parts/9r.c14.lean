theorem mbJ0_length_8abf5 : zMw0 zJ0_length_8abf5 0 ∧ Cond.instanceMethod zJ0_length_8abf5.1 ∈ zgood ∧ Cond.selects zJ0_length_8abf5.1.cls zJ0_length_8abf5.1 zJ0_length_8abf5.1 ∈ zgood := ⟨⟨(zg3 40 (by decide +kernel) rfl), (zg1 16 (by decide +kernel) rfl), ⟨by decide +kernel, by decide +kernel, by decide +kernel⟩, by decide⟩, (zg3 38 (by decide +kernel) rfl), (zg3 39 (by decide +kernel) rfl)⟩
theorem mbJ0_coder_7d493 : zMw0 zJ0_coder_7d493 0 ∧ Cond.instanceMethod zJ0_coder_7d493.1 ∈ zgood ∧ Cond.selects zJ0_coder_7d493.1.cls zJ0_coder_7d493.1 zJ0_coder_7d493.1 ∈ zgood := ⟨⟨(zg3 44 (by decide +kernel) rfl), (zg1 16 (by decide +kernel) rfl), ⟨by decide +kernel, by decide +kernel, by decide +kernel⟩, by decide⟩, (zg3 42 (by decide +kernel) rfl), (zg3 43 (by decide +kernel) rfl)⟩
theorem mbJ0_charAt_5068e : zMw0 zJ0_charAt_5068e 1 ∧ Cond.instanceMethod zJ0_charAt_5068e.1 ∈ zgood ∧ Cond.selects zJ0_charAt_5068e.1.cls zJ0_charAt_5068e.1 zJ0_charAt_5068e.1 ∈ zgood := ⟨⟨(zg3 50 (by decide +kernel) rfl), (zg1 16 (by decide +kernel) rfl), ⟨by decide +kernel, by decide +kernel, by decide +kernel⟩, by decide⟩, (zg3 48 (by decide +kernel) rfl), (zg3 49 (by decide +kernel) rfl)⟩
theorem mbJ0_isLatin1_aae02 : zMw0 zJ0_isLatin1_aae02 0 ∧ Cond.instanceMethod zJ0_isLatin1_aae02.1 ∈ zgood ∧ Cond.selects zJ0_isLatin1_aae02.1.cls zJ0_isLatin1_aae02.1 zJ0_isLatin1_aae02.1 ∈ zgood := ⟨⟨(zg3 54 (by decide +kernel) rfl), (zg1 16 (by decide +kernel) rfl), ⟨by decide +kernel, by decide +kernel, by decide +kernel⟩, by decide⟩, (zg3 52 (by decide +kernel) rfl), (zg3 53 (by decide +kernel) rfl)⟩
def zi2c (a : Int) : Int := ((Int32.ofInt a).toUInt32 % 65536).toInt32.toInt
def qby (i k : Nat) : Int := ((zbyt.getD i []).getD k 0).toInt
def qch (i k : Nat) : Int := zi2c (zand (qby i k) 255)
section CSTR
variable {y : zY} {d : Nat} {E0 E' E : zE} {P : Option zV → zM → Prop} {pc : Nat} {L S S0 : List zV} {m : zM}
theorem z_ldcS {i idx : Nat} {tx : String} (hq : zstr[i]? = some (idx, tx)) (hy : y.1.cls = RX8) (hd : decode y.2.1 pc = .ok (.ldc idx, 2)) (k : zA y d E0 E' P (pc + 2) L (zQ (i + 1) :: S) m E) : zA y d E0 E' P pc L S m E := by
  intro G p l e s mid args below meth c H locs ls cx hH hS hl hL okL okS g1 g2
  have kk := k G p l e s mid args below meth c H locs ls cx hH hS hl hL okL (zok_p (show zok (zQ (i + 1)) from trivial) okS) g1 g2
  have hr := cx.2.2.2.2.2.2.2.2.2.1.2.2.2.2.2.1 i _ hq
  exact va_ldcS cx.1 cx.2.1 (by rw [← hy]; exact cx.2.2.2.2.1) hr hd kk
theorem z_aload_q {i : Fin 4} {x : Nat} (hd : decode y.2.1 pc = .ok (.aload_n i, 1)) (hx : L[(i : Nat)]? = some (zQ x)) (k : zA y d E0 E' P (pc + 1) L (zQ x :: S) m E) : zA y d E0 E' P pc L S m E := by
  intro G p l e s mid args below meth c H locs ls cx hH hS hl hL okL okS g1 g2
  have kk := k G p l e s mid args below meth c H locs ls cx hH hS hl hL okL (zok_p (show zok (zQ x) from trivial) okS) g1 g2
  obtain ⟨q, hq⟩ : ∃ q, ze G (zQ x) = .ref q := by cases x <;> exact ⟨_, rfl⟩
  have hm := hl.2.2 _ (zLs_mem G L 0 i (zQ x) hx (by simp))
  simp only [List.map_cons] at kk
  rw [hq] at kk hm
  rw [Nat.zero_add] at hm
  exact lv_aload_n cx.1 cx.2.1 hd rfl hm kk
theorem z_qcoder {i idx : Nat} (hi : i < 8) (hy : y.1.cls = "java/lang/String") (hf : Cond.fieldLink "java/lang/String" idx "java/lang/String" "coder" "B" ∈ zgood) (hd : decode y.2.1 pc = .ok (.getfield idx, 3)) (k : zA y d E0 E' P (pc + 3) L (zI 0 :: S) m E) : zA y d E0 E' P pc L (zQ (i + 1) :: S) m E := by
  intro G p l e s mid args below meth c H locs ls cx hH hS hl hL okL okS g1 g2
  have kk := k G p l e s mid args below meth c H locs ls cx hH hS hl hL okL (zok_p (show zok (zI 0) from ⟨by decide, by decide⟩) (zok_t okS)) g1 g2
  have hv := (cx.2.2.2.2.2.2.2.2.2.1.2.2.2.1.1 i hi).2.1
  exact vk_getf cx.1 cx.2.1 hv hS (by rw [← hy]; exact cx.2.2.2.2.1) (cx.2.2.2.2.2.1 _ hf) (fun x h => h) hd kk
theorem z_qvalue {i idx : Nat} (hi : i < 8) (hy : y.1.cls = "java/lang/String") (hf : Cond.fieldLink "java/lang/String" idx "java/lang/String" "value" "[B" ∈ zgood) (hd : decode y.2.1 pc = .ok (.getfield idx, 3)) (k : zA y d E0 E' P (pc + 3) L (zQ (i + 9) :: S) m E) : zA y d E0 E' P pc L (zQ (i + 1) :: S) m E := by
  intro G p l e s mid args below meth c H locs ls cx hH hS hl hL okL okS g1 g2
  have kk := k G p l e s mid args below meth c H locs ls cx hH hS hl hL okL (zok_p (show zok (zQ (i + 9)) from trivial) (zok_t okS)) g1 g2
  have hv := (cx.2.2.2.2.2.2.2.2.2.1.2.2.2.1.1 i hi).2.2.1
  have he := cx.2.2.2.2.2.2.2.2.2.1.2.2.2.2.2.2.2.2 i hi
  have e : ze G (zQ (i + 9)) = .ref (G.2.2.2.2.2.2.2 i) := by
    show Value.ref (G.2.2.2.2.2.2.1 (i + 8)) = _
    rw [Nat.add_comm i 8, he]
  simp only [List.map_cons] at kk
  rw [e] at kk
  exact vk_getf cx.1 cx.2.1 hv hS (by rw [← hy]; exact cx.2.2.2.2.1) (cx.2.2.2.2.2.1 _ hf) (fun x h => h) hd kk
theorem z_qstat {idx : Nat} (hy : y.1.cls = "java/lang/String") (hf : Cond.fieldLink "java/lang/String" idx "java/lang/String" "COMPACT_STRINGS" "Z" ∈ zgood) (hd : decode y.2.1 pc = .ok (.getstatic idx, 3)) (k : zA y d E0 E' P (pc + 3) L (zI 1 :: S) m E) : zA y d E0 E' P pc L S m E := by
  intro G p l e s mid args below meth c H locs ls cx hH hS hl hL okL okS g1 g2
  have kk := k G p l e s mid args below meth c H locs ls cx hH hS hl hL okL (zok_p (show zok (zI 1) from ⟨by decide, by decide⟩) okS) g1 g2
  have hv := cx.2.2.2.2.2.2.2.2.2.1.2.2.2.2.2.2.1
  exact va_gets cx.1 cx.2.1 hv hS (by rw [← hy]; exact cx.2.2.2.2.1) (cx.2.2.2.2.2.1 _ hf) (fun x h => h) hd kk
theorem qref (G : zG) {i : Nat} (h : G.2.2.2.2.2.2.1 (8 + i) = G.2.2.2.2.2.2.2 i) : ze G (zQ (i + 9)) = .ref (G.2.2.2.2.2.2.2 i) := by
  show Value.ref (G.2.2.2.2.2.2.1 (i + 8)) = _
  rw [Nat.add_comm i 8, h]
theorem qlen_lt : ∀ i : Nat, i < 8 → zlen.getD i 0 ≤ 6 := by decide
theorem qlen_shr : ∀ i : Nat, i < 8 → zshr ((zlen.getD i 0 : Nat) : Int) 0 = ((zlen.getD i 0 : Nat) : Int) := by decide +kernel
theorem qch_is (i : Nat) (_ : i < 8) (k : Nat) (_ : k < zlen.getD i 0) : zi2c (zand (qby i k) 255) = qch i k := rfl
theorem qch_rg (i : Nat) (hi : i < 8) (k : Nat) (hk : k < zlen.getD i 0) : 0 ≤ qch i k ∧ qch i k < 65536 := by
  have key : ∀ i, i < 8 → ∀ k, k < 6 → 0 ≤ qch i k ∧ qch i k < 65536 := by decide +kernel
  exact key i hi k (by have := qlen_lt i hi; omega)
theorem qch_nr (i : Nat) (hi : i < 8) (k : Nat) (hk : k < zlen.getD i 0) : narrow .char (.int (Int32.ofInt (qch i k))) = .int (Int32.ofInt (qch i k)) := by
  have key : ∀ i, i < 8 → ∀ k, k < 6 → narrow .char (.int (Int32.ofInt (qch i k))) = .int (Int32.ofInt (qch i k)) := by decide +kernel
  exact key i hi k (by have := qlen_lt i hi; omega)
theorem z_tret {ty : FieldType} {x : Int} (hd : decode y.2.1 pc = .ok (.ireturn, 1)) (hr : y.2.2.2 = some ty) (hx : narrow ty (.int (Int32.ofInt x)) = .int (Int32.ofInt x)) (hE : E = E') (hP : P (some (zI x)) m) : zA y d E0 E' P pc L [zI x] m E := by
  intro G p l e s mid args below meth c H locs ls cx hH hS hl hL okL okS g1 g2
  subst hE
  exact W.zret (ty := ty) cx.1 cx.2.1 (cx.2.2.2.1.trans hr) hx (fun t ht hW => ⟨some (zI x), m, rfl, hP, by rw [ht]; exact hH, fun v h => by cases h; exact zok_h okS, hS.F ht⟩) hS.2.2 hd (hlocks := cx.2.2.2.2.2.2.1)
theorem z_qlen {i : Nat} (hi : i < 8) (hd : decode y.2.1 pc = .ok (.arraylength, 1)) (k : zA y d E0 E' P (pc + 1) L (zI (zlen.getD i 0 : Nat) :: S) m E) : zA y d E0 E' P pc L (zQ (i + 9) :: S) m E := by
  intro G p l e s mid args below meth c H locs ls cx hH hS hl hL okL okS g1 g2
  have hl6 := qlen_lt i hi
  have kk := k G p l e s mid args below meth c H locs ls cx hH hS hl hL okL (zok_p (show zok (zI _) from ⟨by omega, by omega⟩) (zok_t okS)) g1 g2
  have hv := (cx.2.2.2.2.2.2.2.2.2.1.2.2.2.1.1 i hi).2.2.2
  have he := cx.2.2.2.2.2.2.2.2.2.1.2.2.2.2.2.2.2.2 i hi
  simp only [List.map_cons]
  rw [qref G he]
  exact va_tlen cx.1 cx.2.1 hv hS rfl hd kk
theorem z_qbald {i k : Nat} (hi : i < 8) (hk : k < zlen.getD i 0) (hd : decode y.2.1 pc = .ok (.baload, 1)) (kk : zA y d E0 E' P (pc + 1) L (zI (qby i k) :: S) m E) : zA y d E0 E' P pc L (zI (k : Nat) :: zQ (i + 9) :: S) m E := by
  intro G p l e s mid args below meth c H locs ls cx hH hS hl hL okL okS g1 g2
  have hl6 := qlen_lt i hi
  have kk := kk G p l e s mid args below meth c H locs ls cx hH hS hl hL okL (zok_p (show zok (zI _) from zr32_of _) (zok_t (zok_t okS))) g1 g2
  have hv := (cx.2.2.2.2.2.2.2.2.2.1.2.2.2.1.1 i hi).2.2.2
  have he := cx.2.2.2.2.2.2.2.2.2.1.2.2.2.2.2.2.2.2 i hi
  simp only [List.map_cons] at kk ⊢
  rw [qref G he]
  have hz : zr32 (k : Int) := ⟨by omega, by omega⟩
  have hin : vp_in (Int32.ofInt (k : Int)) (zlen.getD i 0) := by
    have := z32_in (i := (k : Int)) (n := ((zlen.getD i 0 : Nat) : Int)) hz (by omega) (by omega)
    simpa using this
  refine va_tb cx.1 cx.2.1 hv hS hin (v := .int ((zbyt.getD i []).getD k 0)) ?_ hd ?_
  · rw [z32_clamp hz (by omega)]; rfl
  · have e : ze G (zI (qby i k)) = .int ((zbyt.getD i []).getD k 0) := by
      show Value.int (Int32.ofInt (qby i k)) = _
      unfold qby
      rw [Int32.ofInt_toInt]
    rw [e] at kk
    exact kk
theorem z_i2c {a : Int} (hd : decode y.2.1 pc = .ok (.i2c, 1)) (k : zA y d E0 E' P (pc + 1) L (zI (zi2c a) :: S) m E) : zA y d E0 E' P pc L (zI a :: S) m E := by
  intro G p l e s mid args below meth c H locs ls cx hH hS hl hL okL okS g1 g2
  have kk := k G p l e s mid args below meth c H locs ls cx hH hS hl hL okL (zok_p (show zok (zI _) from zr32_of _) (zok_t okS)) g1 g2
  refine lv_i2c cx.1 cx.2.1 (v := ((Int32.ofInt a).toUInt32 % 65536).toInt32) hd rfl ?_
  simp only [List.map_cons, ze, zi2c, Int32.ofInt_toInt] at kk ⊢
  exact kk
/-- a call on a String constant -/
theorem z_callQ {z : zY} {idx i n : Nat} {av : List zV} {E1 : zE} {P' : Option zV → zM → Prop} (hi : i < 8) (hm : zMb y.1.cls idx z n) (hm2 : Cond.instanceMethod z.1 ∈ zgood ∧ Cond.selects z.1.cls z.1 z.1 ∈ zgood) (hz : z.1.cls = "java/lang/String") (hd : decode y.2.1 pc = .ok (.invokevirtual idx, 3)) (hst : S0 = av.reverse ++ zQ (i + 1) :: S) (hn : av.length = n) (hW : (S.map zcat).sum ≤ 8)
    (hR : zR z d (zQ (i + 1) :: av) m E E1 P') (q1 : E.2.1 ≤ E1.2.1) (q2 : E.2.2 ≤ E1.2.2) (q3 : E1.2.1 ≤ E'.2.1) (q4 : E1.2.2 ≤ E'.2.2) (kk : ∀ r m', P' r m' → zA y (d + 1) E0 E' P (pc + 3) L (r.toList ++ S) m' E1) : zA y (d + 1) E0 E' P pc L S0 m E := by
  intro G p l e s mid args below meth c H locs ls cx hH hS hl hL okL okS g1 g2
  subst hst
  obtain ⟨hlk, hco, hini, hdd, h45⟩ := hm
  obtain ⟨hin, hse⟩ := hm2
  have hts := cx.2.2.2.2.2.1
  have okav : ∀ v ∈ zQ (i + 1) :: av, zok v := fun v hv => by
    rcases List.mem_cons.mp hv with rfl | h
    · trivial
    · exact okS v (by simp [h])
  have hrec : ∃ cellB : Cell, H[G.2.2.2.2.2.2.1 i]? = some cellB ∧ cellB.vm.isStatics = false ∧ s.vm.findClass z.1.cls = some cellB.cls := by
    rw [hz]
    exact vk_recv cx.2.2.2.2.2.2.2.2.2.1.2.2.2.1 hi hS
  have hRm : (zrm d E E1).frames + 1 ≤ (zrm (d + 1) E0 E').frames ∧ 8 + (z.2.2.1 + 11) + (zrm d E E1).locals ≤ (zrm (d + 1) E0 E').locals := ⟨Nat.le_refl _, by show 8 + (z.2.2.1 + 11) + 64 * d ≤ 64 * (d + 1); omega⟩
  have hf : E.2.1 - E0.2.1 + (E1.2.1 - E.2.1) ≤ (zrm (d + 1) E0 E').cells ∧ E.2.2 - E0.2.2 + (E1.2.2 - E.2.2) ≤ (zrm (d + 1) E0 E').slots := ⟨by show _ ≤ E'.2.1 - E0.2.1; omega, by show _ ≤ E'.2.2 - E0.2.2; omega⟩
  have hstk : (F0 mid pc ls ((av.reverse ++ zQ (i + 1) :: S).map (ze G))).stack = (av.map (ze G)).reverse ++ .ref (G.2.2.2.2.2.2.1 i) :: S.map (ze G) := by
    show (av.reverse ++ zQ (i + 1) :: S).map (ze G) = _
    rw [List.map_append, List.map_reverse, List.map_cons]
    rfl
  have hmr : 2 * (F0 mid pc ls ((av.reverse ++ zQ (i + 1) :: S).map (ze G))).monitorRoom + ((S.map (ze G)).map fun v => v.category).sum ≤ 8 := lv_room (Nat.le_trans (zcat_le G S) hW)
  have okS2 : ∀ v ∈ S, zok v := fun v hv => okS v (by simp [hv])
  rcases hlk with h | ⟨host, h⟩
  · have cb := callB_of (R := zrm (d + 1) E0 E') (rm := zrm d E E1) (ws := zws z) n hts (z_goodws z hco) rfl rfl rfl (hts _ hini) (hts _ h) hdd hRm
    exact z_back (va_runV ⟨cx.1, cx.2.1, cx.2.2.1, cx.2.2.2.2.1, hts⟩ (hR l G) ⟨cb, hts _ hin, hts _ hse⟩ ⟨zPc_blind G _ E m, hrec, z_pre cx hH hS okav⟩ rfl (by simp [hn]) hl.1 hstk hmr hd hf) cx hS hl hL okL okS2 g1 g2 q1 q2 kk
  · have cb := va_cnB (R := zrm (d + 1) E0 E') (rm := zrm d E E1) (ws := zws z) n hts (z_goodws z hco) rfl rfl rfl (cx.2.2.2.2.2.2.2.2.2.1.1 _ h rfl) (hts _ hini) hdd hRm
    exact z_back (va_runVN ⟨cx.1, cx.2.1, cx.2.2.1, cx.2.2.2.2.1, hts⟩ (hR l G) ⟨cb, hts _ hin, hts _ hse⟩ ⟨zPc_blind G _ E m, hrec, z_pre cx hH hS okav⟩ rfl (by simp [hn]) hl.1 hstk hmr hd hf) cx hS hl hL okL okS2 g1 g2 q1 q2 kk
end CSTR
theorem c_coder (d : Nat) {E : zE} {m : zM} (i : Nat) (hi : i < 8) : zR zJ0_coder_7d493 d [zQ (i + 1)] m E E (fun r m' => r = some (zI 0) ∧ m = m') := by
  refine zR_go [zQ (i + 1)] (by decide +kernel) (Nat.le_of_ble_eq_true rfl) rfl rfl ?_
  refine z_qstat rfl (zg3 45 (by decide +kernel) rfl) dJ0_coder_7d493_0 ?_
  refine z_if_eq (tgt := 13) dJ0_coder_7d493_3 rfl (fun h => absurd h (by decide)) (fun _ => ?_)
  refine z_aload_q dJ0_coder_7d493_6 rfl ?_
  refine z_qcoder hi rfl (zg9 186 (by decide +kernel) rfl) dJ0_coder_7d493_7 ?_
  refine z_goto (tgt := 14) dJ0_coder_7d493_10 rfl ?_
  refine z_tret (ty := .byte) dJ0_coder_7d493_14 rfl rfl rfl ⟨rfl, rfl⟩

theorem c_isLatin1 (d : Nat) {E : zE} {m : zM} (i : Nat) (hi : i < 8) : zR zJ0_isLatin1_aae02 d [zQ (i + 1)] m E E (fun r m' => r = some (zI 1) ∧ m = m') := by
  refine zR_go [zQ (i + 1)] (by decide +kernel) (Nat.le_of_ble_eq_true rfl) rfl rfl ?_
  refine z_qstat rfl (zg3 45 (by decide +kernel) rfl) dJ0_isLatin1_aae02_0 ?_
  refine z_if_eq (tgt := 17) dJ0_isLatin1_aae02_3 rfl (fun h => absurd h (by decide)) (fun _ => ?_)
  refine z_aload_q dJ0_isLatin1_aae02_6 rfl ?_
  refine z_qcoder hi rfl (zg9 186 (by decide +kernel) rfl) dJ0_isLatin1_aae02_7 ?_
  refine z_if_ne (tgt := 17) dJ0_isLatin1_aae02_10 rfl (fun h => absurd rfl h) (fun _ => ?_)
  refine z_iconst dJ0_isLatin1_aae02_13 (by decide) ?_
  refine z_goto (tgt := 18) dJ0_isLatin1_aae02_14 rfl ?_
  refine z_zret dJ0_isLatin1_aae02_18 rfl (by decide) rfl ⟨rfl, rfl⟩

theorem c_length (d : Nat) {E : zE} {m : zM} (i : Nat) (hi : i < 8) : zR zJ0_length_8abf5 (d + 1) [zQ (i + 1)] m E E (fun r m' => r = some (zI (zlen.getD i 0 : Nat)) ∧ m = m') := by
  refine zR_go [zQ (i + 1)] (by decide +kernel) (Nat.le_of_ble_eq_true rfl) rfl rfl ?_
  refine z_aload_q dJ0_length_8abf5_0 rfl ?_
  refine z_qvalue hi rfl (zg9 185 (by decide +kernel) rfl) dJ0_length_8abf5_1 ?_
  refine z_qlen hi dJ0_length_8abf5_4 ?_
  refine z_aload_q dJ0_length_8abf5_5 rfl ?_
  refine z_callQ hi (⟨Or.inl (zg3 41 (by decide +kernel) rfl), mbJ0_coder_7d493.1⟩) mbJ0_coder_7d493.2 rfl dJ0_length_8abf5_6 (av := []) rfl rfl (Nat.le_of_ble_eq_true rfl) (c_coder _ i hi) (Nat.le_refl _) (Nat.le_refl _) (Nat.le_refl _) (Nat.le_refl _) ?_
  rintro _ _ ⟨rfl, rfl⟩
  refine z_ishr dJ0_length_8abf5_9 ?_
  rw [show zshr ((zlen.getD i 0 : Nat) : Int) 0 = ((zlen.getD i 0 : Nat) : Int) from qlen_shr i hi]
  refine z_iret dJ0_length_8abf5_10 rfl rfl ⟨rfl, rfl⟩

theorem a_checkIndex (d : Nat) {E : zE} {m : zM} (i n : Int) (h0 : 0 ≤ i) (h1 : i < n) : zA zJ3_checkIndex_8e157 d E E (fun r m' => r = some (zI i) ∧ m = m') 0 [zI i, zI n, zN] [] m E := by
  refine z_iload_n dJ3_checkIndex_8e157_0 rfl ?_
  refine z_if_lt (tgt := 9) dJ3_checkIndex_8e157_1 rfl (fun h => absurd h (by omega)) (fun _ => ?_)
  refine z_iload_n dJ3_checkIndex_8e157_4 rfl ?_
  refine z_iload_n dJ3_checkIndex_8e157_5 rfl ?_
  refine z_icmp_lt (tgt := 16) dJ3_checkIndex_8e157_6 rfl (fun _ => ?_) (fun h => absurd h1 h)
  refine z_iload_n dJ3_checkIndex_8e157_16 rfl ?_
  refine z_iret dJ3_checkIndex_8e157_17 rfl rfl ⟨rfl, rfl⟩

theorem c_checkIndexR (d : Nat) {E : zE} {m : zM} (i n : Int) (h0 : 0 ≤ i) (h1 : i < n) (l : Launch) (G : zG) (v : Value) (hv : v.category = 1) : Met l zJ3_checkIndex_8e157.1 (zws zJ3_checkIndex_8e157) (zrm d E E) (va_Pc [.int (Int32.ofInt i), .int (Int32.ofInt n), v] (fun U => zH G E m U.heap ∧ va_K G.2.1 zcl (ztys G) U ∧ zZ G U ∧ zr32 i ∧ zr32 n)) (zQc G E (fun r m' => r = some (zI i) ∧ m = m')) (E.2.1 - E.2.1) (E.2.2 - E.2.2) (fun q => G.1 ≤ q) := by
  refine Met.ofW (cc := zJ3_checkIndex_8e157.2.1) (maxL := 3) (ret := zJ3_checkIndex_8e157.2.2.2) (by decide +kernel) rfl ?_
  intro p e s mid args below meth c s₁ B hml hv2
  obtain ⟨rfl, hH, hK, hZ, hi, hn⟩ := hv2
  have hts := atoms_spec (ws := zws zJ3_checkIndex_8e157) B.pre
  have hl := lv_entry [Value.int (Int32.ofInt i), .int (Int32.ofInt n), v] (n := 3) (by cases v <;> simp_all [lg_sl, Value.category])
  rw [lg_entry_eq]
  have hl2 : lv_has _ 3 (zLs G 0 [zI i, zI n, zN]) := ⟨hl.1, hl.2.1, fun q hq => hl.2.2 q (by
    simp only [zLs, ze, List.mem_cons, List.not_mem_nil, or_false] at hq
    simp only [lv_args, Value.category, hv]
    rcases hq with rfl | rfl <;> simp)⟩
  have := a_checkIndex d (E := E) (m := m) i n h0 h1 G p l e s mid ([Value.int (Int32.ofInt i), .int (Int32.ofInt n), v].toArray) below meth c s.heap [] _ ⟨B.exec, B.bytes, hml, B.returns, findClass_of_methodNamed B.named, fun w hw => hts w (List.mem_cons_of_mem _ hw), B.notSynchronized, (name_of_methodNamed B.named B.method).1, hK, hZ, hH.2.1⟩ hH va_S.rf hl2 rfl (by simp [zok]; exact ⟨hi, hn⟩) (by simp) (Nat.le_refl _) (Nat.le_refl _)
  simp only [Nat.sub_self] at this ⊢
  exact this

theorem c_checkIndex (d : Nat) {E : zE} {m : zM} (i n : Int) (h0 : 0 ≤ i) (h1 : i < n) : zR zJ0_checkIndex_df160 (d + 1) [zI i, zI n] m E E (fun r m' => r = none ∧ m = m') := by
  refine zR_go [zI i, zI n] (by decide +kernel) (Nat.le_of_ble_eq_true rfl) rfl rfl ?_
  refine z_iload_n dJ0_checkIndex_df160_0 rfl ?_
  refine z_iload_n dJ0_checkIndex_df160_1 rfl ?_
  have kk : ∀ r m', (r = some (zI i) ∧ m = m') → zA zJ0_checkIndex_df160 (d + 1) E E (fun r m' => r = none ∧ m = m') (5 + 3) [zI i, zI n] (r.toList ++ []) m' E := by
    rintro _ _ ⟨rfl, rfl⟩
    refine z_pop dJ0_checkIndex_df160_8 rfl ?_
    exact z_vret dJ0_checkIndex_df160_9 rfl rfl ⟨rfl, rfl⟩
  intro G p l e s mid args below meth c H locs ls cx hH hS hl hL okL okS g1 g2
  obtain ⟨v, hcat, hvz2⟩ : ∃ v : Value, v.category = 1 ∧ va_Z "jdk/internal/util/Preconditions" "SIOOBE_FORMATTER" "Ljava/util/function/BiFunction;" v (fun q => G.1 ≤ q) s s.heap := by
    rcases cx.2.2.2.2.2.2.2.2.2.1.2.2.2.2.2.2.2.1 with h | ⟨t, h⟩
    · exact ⟨_, rfl, h⟩
    · exact ⟨_, rfl, h⟩
  have hts := cx.2.2.2.2.2.1
  refine va_gets cx.1 cx.2.1 hvz2 hS cx.2.2.2.2.1 (hts _ (zg3 61 (by decide +kernel) rfl)) (fun x h => h) dJ0_checkIndex_df160_2 ?_
  have hm := (⟨⟨Or.inl (zg3 63 (by decide +kernel) rfl), mbJ3_checkIndex_8e157.1⟩, mbJ3_checkIndex_8e157.2⟩ : zMs zJ0_checkIndex_df160.1.cls 1059 zJ3_checkIndex_8e157 3)
  have h : Cond.methodLink zJ0_checkIndex_df160.1.cls 1059 zJ3_checkIndex_8e157.1 ∈ zgood := (zg3 63 (by decide +kernel) rfl)
  obtain ⟨⟨-, hco, hini, hdd, h45⟩, hst⟩ := hm
  have hRm : (zrm d E E).frames + 1 ≤ (zrm (d + 1) E E).frames ∧ 8 + (zJ3_checkIndex_8e157.2.2.1 + 11) + (zrm d E E).locals ≤ (zrm (d + 1) E E).locals := ⟨Nat.le_refl _, by show 8 + (3 + 11) + 64 * d ≤ 64 * (d + 1); omega⟩
  have hf : E.2.1 - E.2.1 + (E.2.1 - E.2.1) ≤ (zrm (d + 1) E E).cells ∧ E.2.2 - E.2.2 + (E.2.2 - E.2.2) ≤ (zrm (d + 1) E E).slots := ⟨by show _ ≤ E.2.1 - E.2.1; omega, by show _ ≤ E.2.2 - E.2.2; omega⟩
  have cb := callB_of (R := zrm (d + 1) E E) (rm := zrm d E E) (ws := zws zJ3_checkIndex_8e157) 3 hts (z_goodws zJ3_checkIndex_8e157 hco) rfl rfl rfl (hts _ hini) (hts _ h) hdd hRm
  have hpre : ∀ U : State, U.heap = H → s.WarmedH U.vm → va_Pc [.int (Int32.ofInt i), .int (Int32.ofInt n), v] (fun U => zH G E m U.heap ∧ va_K G.2.1 zcl (ztys G) U ∧ zZ G U ∧ zr32 i ∧ zr32 n) ([Value.int (Int32.ofInt i), .int (Int32.ofInt n), v]).toArray U := fun U hU hW => by
    have hp := z_pre (av := []) cx hH hS (by simp) U hU hW
    exact ⟨rfl, hp.2.1, hp.2.2.1, hp.2.2.2.1, okL (zI i) (by simp), okL (zI n) (by simp)⟩
  have hbl : FrameBlind (va_Pc [.int (Int32.ofInt i), .int (Int32.ofInt n), v] (fun U => zH G E m U.heap ∧ va_K G.2.1 zcl (ztys G) U ∧ zZ G U ∧ zr32 i ∧ zr32 n)) := by
    intro a U g mk h
    obtain ⟨h1, h2, h3, h4, h5⟩ := h
    exact ⟨h1, h2, va_K.moved (u := U) (U := U.calling g mk a) (Vm.Alike.refl U.vm) h3, zZ_same h4 rfl rfl, h5⟩
  exact z_back (S := []) (va_runS ⟨cx.1, cx.2.1, cx.2.2.1, cx.2.2.2.2.1, hts⟩ (c_checkIndexR d i n h0 h1 l G v hcat) ⟨cb, hts _ hst⟩ ⟨hbl, hpre⟩ rfl rfl hl.1 rfl (by simp [F0]) dJ0_checkIndex_df160_5 hf) cx hS hl hL okL (by simp) g1 g2 (Nat.le_refl _) (Nat.le_refl _) kk

theorem c_charAtL (d : Nat) {E : zE} {m : zM} (i : Nat) (hi : i < 8) (k : Nat) (hk : k < zlen.getD i 0) : zR zJ1_charAt_3b067 (d + 2) [zQ (i + 9), zI (k : Nat)] m E E (fun r m' => r = some (zI (qch i k)) ∧ m = m') := by
  have hl := qlen_lt i hi
  refine zR_go [zQ (i + 9), zI (k : Nat)] (by decide +kernel) (Nat.le_of_ble_eq_true rfl) rfl rfl ?_
  refine z_iload_n dJ1_charAt_3b067_0 rfl ?_
  refine z_aload_q dJ1_charAt_3b067_1 rfl ?_
  refine z_qlen hi dJ1_charAt_3b067_2 ?_
  refine z_callS (⟨⟨Or.inl (zg3 58 (by decide +kernel) rfl), mbJ0_checkIndex_df160.1⟩, mbJ0_checkIndex_df160.2⟩) dJ1_charAt_3b067_3 (av := [_, _]) rfl rfl (Nat.le_of_ble_eq_true rfl) (c_checkIndex _ (k : Nat) (zlen.getD i 0 : Nat) (by omega) (by omega)) (Nat.le_refl _) (Nat.le_refl _) (Nat.le_refl _) (Nat.le_refl _) ?_
  rintro _ _ ⟨rfl, rfl⟩
  refine z_aload_q dJ1_charAt_3b067_6 rfl ?_
  refine z_iload_n dJ1_charAt_3b067_7 rfl ?_
  refine z_qbald hi hk dJ1_charAt_3b067_8 ?_
  refine z_sipush dJ1_charAt_3b067_9 rfl (by decide) ?_
  refine z_iand dJ1_charAt_3b067_12 ?_
  refine z_i2c dJ1_charAt_3b067_13 ?_
  rw [show zi2c (zand (qby i k) 255) = qch i k from qch_is i hi k hk]
  refine z_tret (ty := .char) dJ1_charAt_3b067_14 rfl (qch_nr i hi k hk) rfl ⟨rfl, rfl⟩

theorem c_charAt (d : Nat) {E : zE} {m : zM} (i : Nat) (hi : i < 8) (k : Nat) (hk : k < zlen.getD i 0) : zR zJ0_charAt_5068e (d + 3) [zQ (i + 1), zI (k : Nat)] m E E (fun r m' => r = some (zI (qch i k)) ∧ m = m') := by
  refine zR_go [zQ (i + 1), zI (k : Nat)] (by decide +kernel) (Nat.le_of_ble_eq_true rfl) rfl rfl ?_
  refine z_aload_q dJ0_charAt_5068e_0 rfl ?_
  refine z_callQ hi (⟨Or.inl (zg3 51 (by decide +kernel) rfl), mbJ0_isLatin1_aae02.1⟩) mbJ0_isLatin1_aae02.2 rfl dJ0_charAt_5068e_1 (av := []) rfl rfl (Nat.le_of_ble_eq_true rfl) (c_isLatin1 _ i hi) (Nat.le_refl _) (Nat.le_refl _) (Nat.le_refl _) (Nat.le_refl _) ?_
  rintro _ _ ⟨rfl, rfl⟩
  refine z_if_eq (tgt := 16) dJ0_charAt_5068e_4 rfl (fun h => absurd h (by decide)) (fun _ => ?_)
  refine z_aload_q dJ0_charAt_5068e_7 rfl ?_
  refine z_qvalue hi rfl (zg9 185 (by decide +kernel) rfl) dJ0_charAt_5068e_8 ?_
  refine z_iload_n dJ0_charAt_5068e_11 rfl ?_
  refine z_callS (⟨⟨Or.inl (zg3 55 (by decide +kernel) rfl), mbJ1_charAt_3b067.1⟩, mbJ1_charAt_3b067.2⟩) dJ0_charAt_5068e_12 (av := [_, _]) rfl rfl (Nat.le_of_ble_eq_true rfl) (c_charAtL _ i hi k hk) (Nat.le_refl _) (Nat.le_refl _) (Nat.le_refl _) (Nat.le_refl _) ?_
  rintro _ _ ⟨rfl, rfl⟩
  refine z_tret (ty := .char) dJ0_charAt_5068e_15 rfl (qch_nr i hi k hk) rfl ⟨rfl, rfl⟩
