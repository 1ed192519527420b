/-! rows over the law's own frame: how far it comes is not fixed ahead -/
abbrev yL (nm : String) : zY := (MethodName.mk R_law nm "([I)Z", code, 4, ret)
def zB (y : zY) (Q : List Frame → Array Value → State → State → Prop) (G : zG) (pc : Nat) (L S : List zV) (m : zM) (E : zE) : Prop :=
  ∀ (p : Program) (l : Launch) (e : Env) (s : State) (mid : MethodId) (args : Array Value) (below : List Frame) (meth : Method) (c : Code) (H : Heap) (locs : List Loc) (ls : Array Slot),
    zCx G y (eC 0) p s mid args meth c → zH G E m H → va_S (fun q => G.1 ≤ q) s.heap H locs → lv_has ls y.2.2.1 (zLs G 0 L) → L.length = y.2.2.1 → (∀ v ∈ L, zok v) → (∀ v ∈ S, zok v) → args = #[Value.ref G.2.2.2.1] → True →
    W p l e room_1 s mid args below meth c H locs E.2.1 E.2.2 (Q below args s) (F0 mid pc ls (S.map (ze G)))
section ZBR
variable {y : zY} {Q : List Frame → Array Value → State → State → Prop} {G : zG} {E : zE} {pc : Nat} {L S S0 : List zV} {m : zM}
theorem b_iadd {a b : Int} (hd : decode y.2.1 pc = .ok (.iadd, 1)) (k : zB y Q G (pc + 1) L (zI (w32 (a + b)) :: S) m E) : zB y Q G pc L (zI b :: zI a :: S) m E := by
  intro p l e s mid args below meth c H locs ls cx hH hS hl hL okL okS g1 g2
  have kk := k p l e s mid args below meth c H locs ls cx hH hS hl hL okL (zok_p (show zok (zI _) from zr32_of _) (zok_t (zok_t okS))) g1 g2
  refine lv_iadd cx.1 cx.2.1 hd  ?_
  have e : Int32.ofInt (w32 (a + b)) = Int32.ofInt a + Int32.ofInt b := by rw [w32_of, Int32.ofInt_add]
  simp only [List.map_cons, ze] at kk ⊢
  rw [e] at kk
  exact kk
theorem b_isub {a b : Int} (hd : decode y.2.1 pc = .ok (.isub, 1)) (k : zB y Q G (pc + 1) L (zI (w32 (a - b)) :: S) m E) : zB y Q G pc L (zI b :: zI a :: S) m E := by
  intro p l e s mid args below meth c H locs ls cx hH hS hl hL okL okS g1 g2
  have kk := k p l e s mid args below meth c H locs ls cx hH hS hl hL okL (zok_p (show zok (zI _) from zr32_of _) (zok_t (zok_t okS))) g1 g2
  refine lv_isub cx.1 cx.2.1 hd  ?_
  have e : Int32.ofInt (w32 (a - b)) = Int32.ofInt a - Int32.ofInt b := by rw [w32_of, Int32.ofInt_sub]
  simp only [List.map_cons, ze] at kk ⊢
  rw [e] at kk
  exact kk
theorem b_iand {a b : Int} (hd : decode y.2.1 pc = .ok (.iand, 1)) (k : zB y Q G (pc + 1) L (zI (zand a b) :: S) m E) : zB y Q G pc L (zI b :: zI a :: S) m E := by
  intro p l e s mid args below meth c H locs ls cx hH hS hl hL okL okS g1 g2
  have kk := k p l e s mid args below meth c H locs ls cx hH hS hl hL okL (zok_p (show zok (zI _) from zr32_of _) (zok_t (zok_t okS))) g1 g2
  refine lv_iand cx.1 cx.2.1 hd  ?_
  have e : Int32.ofInt (zand a b) = Int32.ofInt a &&& Int32.ofInt b := by exact Int32.ofInt_toInt _
  simp only [List.map_cons, ze] at kk ⊢
  rw [e] at kk
  exact kk
theorem b_iconst {n : Int} (hd : decode y.2.1 pc = .ok (.iconst n, 1)) (hn : -2147483648 ≤ n ∧ n < 2147483648) (k : zB y Q G (pc + 1) L (zI n :: S) m E) : zB y Q G pc L S m E := by
  intro p l e s mid args below meth c H locs ls cx hH hS hl hL okL okS g1 g2
  have kk := k p l e s mid args below meth c H locs ls cx hH hS hl hL okL (zok_p (show zok (zI n) from hn) okS) g1 g2
  exact lv_iconst cx.1 cx.2.1 hd rfl kk
theorem b_bipush {n : Int} (hd : decode y.2.1 pc = .ok (.bipush n, 2)) (hv : (Int8.ofInt n).toInt32 = Int32.ofInt n) (hn : -2147483648 ≤ n ∧ n < 2147483648) (k : zB y Q G (pc + 2) L (zI n :: S) m E) : zB y Q G pc L S m E := by
  intro p l e s mid args below meth c H locs ls cx hH hS hl hL okL okS g1 g2
  have kk := k p l e s mid args below meth c H locs ls cx hH hS hl hL okL (zok_p (show zok (zI n) from hn) okS) g1 g2
  exact lv_bipush cx.1 cx.2.1 hd hv kk
theorem b_iload_n {f : Fin 4} {x : Int} (hd : decode y.2.1 pc = .ok (.iload_n f, 1)) (hx : L[(f : Nat)]? = some (zI x)) (k : zB y Q G (pc + 1) L (zI x :: S) m E) : zB y Q G pc L S m E := by
  intro p l e s mid args below meth c H locs ls cx hH hS hl hL okL okS g1 g2
  have kk := k p l e s mid args below meth c H locs ls cx hH hS hl hL okL (zok_p (okL _ (List.mem_of_getElem? hx)) okS) g1 g2
  refine lv_iload_n cx.1 cx.2.1 hd rfl ?_ kk
  have := hl.2.2 _ (zLs_mem G L 0 f (zI x) hx (by simp))
  simpa [ze] using this
theorem b_aload_n {f : Fin 4} {x : Int} (hd : decode y.2.1 pc = .ok (.aload_n f, 1)) (hx : L[(f : Nat)]? = some (zP x)) (k : zB y Q G (pc + 1) L (zP x :: S) m E) : zB y Q G pc L S m E := by
  intro p l e s mid args below meth c H locs ls cx hH hS hl hL okL okS g1 g2
  have kk := k p l e s mid args below meth c H locs ls cx hH hS hl hL okL (zok_p (okL _ (List.mem_of_getElem? hx)) okS) g1 g2
  refine lv_aload_n cx.1 cx.2.1 hd rfl ?_ kk
  have := hl.2.2 _ (zLs_mem G L 0 f (zP x) hx (by simp))
  simpa [ze] using this
theorem b_istore_n {f : Fin 4} {x : Int} (hd : decode y.2.1 pc = .ok (.istore_n f, 1)) (hi : (f : Nat) < L.length) (k : zB y Q G (pc + 1) (zst L f (zI x)) S m E) : zB y Q G pc L (zI x :: S) m E := by
  intro p l e s mid args below meth c H locs ls cx hH hS hl hL okL okS g1 g2
  refine lv_istore_n cx.1 cx.2.1 hd rfl hl (by omega) rfl (fun ls' hl' => ?_)
  have kk := k p l e s mid args below meth c H locs ls' cx hH hS (zst_has hl') (by rw [zst_len]; exact hL) (zst_ok okL (zok_h okS)) (zok_t okS) g1 g2
  exact kk
theorem b_astore_n {f : Fin 4} {x : Int} (hd : decode y.2.1 pc = .ok (.astore_n f, 1)) (hi : (f : Nat) < L.length) (k : zB y Q G (pc + 1) (zst L f (zP x)) S m E) : zB y Q G pc L (zP x :: S) m E := by
  intro p l e s mid args below meth c H locs ls cx hH hS hl hL okL okS g1 g2
  refine lv_astore_n cx.1 cx.2.1 hd rfl hl (by omega) rfl (fun ls' hl' => ?_)
  have kk := k p l e s mid args below meth c H locs ls' cx hH hS (zst_has hl') (by rw [zst_len]; exact hL) (zst_ok okL (zok_h okS)) (zok_t okS) g1 g2
  exact kk
theorem b_iinc {i : Nat} {n x : Int} (hd : decode y.2.1 pc = .ok (.iinc i n, 3)) (hx : L[i]? = some (zI x)) (k : zB y Q G (pc + 3) (zst L i (zI (w32 (x + n)))) S m E) : zB y Q G pc L S m E := by
  intro p l e s mid args below meth c H locs ls cx hH hS hl hL okL okS g1 g2
  have hi : i < L.length := (List.getElem?_eq_some_iff.mp hx).1
  obtain ⟨q, hq⟩ := List.getElem?_of_mem (zLs_mem G L 0 i (zI x) hx (by simp))
  refine lv_iinc cx.1 cx.2.1 hd hl (k := q) (by simpa [ze] using hq) (v := Int32.ofInt (w32 (x + n))) (by rw [w32_of, Int32.ofInt_add]) (by omega) rfl (fun ls' hl' => ?_)
  have kk := k p l e s mid args below meth c H locs ls' cx hH hS (zst_has (v := zI (w32 (x + n))) hl') (by rw [zst_len]; exact hL) (zst_ok okL (show zok (zI _) from zr32_of _)) okS g1 g2
  exact kk
theorem b_dup {v : zV} (hd : decode y.2.1 pc = .ok (.dup, 1)) (hv : zlong v = false) (k : zB y Q G (pc + 1) L (v :: v :: S) m E) : zB y Q G pc L (v :: S) m E := by
  intro p l e s mid args below meth c H locs ls cx hH hS hl hL okL okS g1 g2
  have kk := k p l e s mid args below meth c H locs ls cx hH hS hl hL okL (zok_p (zok_h okS) okS) g1 g2
  exact lv_dup cx.1 cx.2.1 hd (by rcases lv_cat (ze G v) with h | h; exact h; rw [zlong_cat G v h] at hv; cases hv) kk
theorem b_goto {off : Int} {tgt : Nat} (hd : decode y.2.1 pc = .ok (.goto off, 3)) (ht : (pc : Int) + off = (tgt : Int)) (k : zB y Q G tgt L S m E) : zB y Q G pc L S m E := by
  intro p l e s mid args below meth c H locs ls cx hH hS hl hL okL okS g1 g2
  have kk := k p l e s mid args below meth c H locs ls cx hH hS hl hL okL okS g1 g2
  exact lv_goto cx.1 cx.2.1 hd ht kk
theorem b_icmp_eq {a b off : Int} {tgt : Nat} (hd : decode y.2.1 pc = .ok (.if_icmp .eq off, 3)) (ht : (pc : Int) + off = (tgt : Int)) (kt : a = b → zB y Q G tgt L S m E) (kf : ¬ (a = b) → zB y Q G (pc + 3) L S m E) : zB y Q G pc L (zI b :: zI a :: S) m E := by
  intro p l e s mid args below meth c H locs ls cx hH hS hl hL okL okS g1 g2
  have hb : zr32 b := zok_h okS
  have ha : zr32 a := zok_h (zok_t okS)
  have q := z32_eq ha hb
  refine lv_icmp_eq cx.1 cx.2.1 hd ht (fun h => ?_) (fun h => ?_)
  · exact kt (by first | exact q.mp h | exact fun z => h (q.mpr z)) p l e s mid args below meth c H locs ls cx hH hS hl hL okL (zok_t (zok_t okS)) g1 g2
  · exact kf (by first | exact fun z => h (q.mpr z) | exact fun z => z (q.mp (Classical.not_not.mp h)) | exact fun z => z (q.mp h)) p l e s mid args below meth c H locs ls cx hH hS hl hL okL (zok_t (zok_t okS)) g1 g2
theorem b_icmp_gt {a b off : Int} {tgt : Nat} (hd : decode y.2.1 pc = .ok (.if_icmp .gt off, 3)) (ht : (pc : Int) + off = (tgt : Int)) (kt : b < a → zB y Q G tgt L S m E) (kf : ¬ (b < a) → zB y Q G (pc + 3) L S m E) : zB y Q G pc L (zI b :: zI a :: S) m E := by
  intro p l e s mid args below meth c H locs ls cx hH hS hl hL okL okS g1 g2
  have hb : zr32 b := zok_h okS
  have ha : zr32 a := zok_h (zok_t okS)
  have q := z32_lt hb ha
  refine lv_icmp_gt cx.1 cx.2.1 hd ht (fun h => ?_) (fun h => ?_)
  · exact kt (by first | exact q.mp h | exact fun z => h (q.mpr z)) p l e s mid args below meth c H locs ls cx hH hS hl hL okL (zok_t (zok_t okS)) g1 g2
  · exact kf (by first | exact fun z => h (q.mpr z) | exact fun z => z (q.mp (Classical.not_not.mp h)) | exact fun z => z (q.mp h)) p l e s mid args below meth c H locs ls cx hH hS hl hL okL (zok_t (zok_t okS)) g1 g2
theorem b_if_eq {a off : Int} {tgt : Nat} (hd : decode y.2.1 pc = .ok (.ifCond .eq off, 3)) (ht : (pc : Int) + off = (tgt : Int)) (kt : a = 0 → zB y Q G tgt L S m E) (kf : ¬ (a = 0) → zB y Q G (pc + 3) L S m E) : zB y Q G pc L (zI a :: S) m E := by
  intro p l e s mid args below meth c H locs ls cx hH hS hl hL okL okS g1 g2
  have hb : zr32 0 := zr32_0
  have ha : zr32 a := zok_h okS
  have q := z32_eq ha hb
  refine lv_if_eq cx.1 cx.2.1 hd ht (fun h => ?_) (fun h => ?_)
  · exact kt (by first | exact q.mp h | exact fun z => h (q.mpr z)) p l e s mid args below meth c H locs ls cx hH hS hl hL okL (zok_t okS) g1 g2
  · exact kf (by first | exact fun z => h (q.mpr z) | exact fun z => z (q.mp (Classical.not_not.mp h)) | exact fun z => z (q.mp h)) p l e s mid args below meth c H locs ls cx hH hS hl hL okL (zok_t okS) g1 g2
theorem b_lcmp {a b : Int} (hd : decode y.2.1 pc = .ok (.lcmp, 1)) (k : zB y Q G (pc + 1) L (zI (zcmp a b) :: S) m E) : zB y Q G pc L (zJ b :: zJ a :: S) m E := by
  intro p l e s mid args below meth c H locs ls cx hH hS hl hL okL okS g1 g2
  have ha : zr64 a := zok_h (zok_t okS)
  have hb : zr64 b := zok_h okS
  have hc : zr32 (zcmp a b) := by unfold zcmp; split <;> (try split) <;> exact ⟨by decide, by decide⟩
  have kk := k p l e s mid args below meth c H locs ls cx hH hS hl hL okL (zok_p (show zok (zI _) from hc) (zok_t (zok_t okS))) g1 g2
  refine W.lcmp cx.1 cx.2.1 hd ?_
  have e : lg_cmp (Int64.ofInt a) (Int64.ofInt b) = Int32.ofInt (zcmp a b) := by
    unfold lg_cmp zcmp
    simp only [gt_iff_lt, z64_lt hb ha, z64_eq ha hb]
    by_cases h1 : b < a
    · rw [if_pos h1, if_neg (by omega), if_neg (by omega)]; rfl
    · rw [if_neg h1]
      by_cases h2 : a = b
      · rw [if_pos h2, if_neg (by omega), if_pos h2]; rfl
      · rw [if_neg h2, if_pos (by omega)]; rfl
  simp only [List.map_cons, ze] at kk ⊢
  rw [e]
  exact kk
theorem b_tabOut {dflt lo hi x : Int} {offs : Array Int} {len tgt : Nat} (hd : decode y.2.1 pc = .ok (.tableswitch dflt lo hi offs, len)) (h : x < lo ∨ hi < x) (ht : (pc : Int) + dflt = (tgt : Int)) (k : zB y Q G tgt L S m E) : zB y Q G pc L (zI x :: S) m E := by
  intro p l e s mid args below meth c H locs ls cx hH hS hl hL okL okS g1 g2
  have kk := k p l e s mid args below meth c H locs ls cx hH hS hl hL okL (zok_t okS) g1 g2
  exact lv_tableOut cx.1 cx.2.1 hd (by rw [z32_toInt (zok_h okS)]; exact h) ht kk
theorem b_tabIn {dflt lo hi x off : Int} {offs : Array Int} {len tgt : Nat} (hd : decode y.2.1 pc = .ok (.tableswitch dflt lo hi offs, len)) (h1 : ¬ x < lo) (h2 : ¬ hi < x) (ho : offs[(x - lo).toNat]? = some off) (ht : (pc : Int) + off = (tgt : Int)) (k : zB y Q G tgt L S m E) : zB y Q G pc L (zI x :: S) m E := by
  intro p l e s mid args below meth c H locs ls cx hH hS hl hL okL okS g1 g2
  have kk := k p l e s mid args below meth c H locs ls cx hH hS hl hL okL (zok_t okS) g1 g2
  have q := z32_toInt (x := x) (zok_h okS)
  exact lv_tableIn cx.1 cx.2.1 hd (by rw [q]; exact h1) (by rw [q]; exact h2) (by rw [q]; exact ho) ht kk
theorem b_aload_q {i : Fin 4} {x : Nat} (hd : decode y.2.1 pc = .ok (.aload_n i, 1)) (hx : L[(i : Nat)]? = some (zQ x)) (k : zB y Q G (pc + 1) L (zQ x :: S) m E) : zB y Q G pc L S m E := by
  intro p l e s mid args below meth c H locs ls cx hH hS hl hL okL okS g1 g2
  have kk := k p l e s mid args below meth c H locs ls cx hH hS hl hL okL (zok_p (show zok (zQ x) from trivial) okS) g1 g2
  obtain ⟨q, hq⟩ : ∃ q, ze G (zQ x) = .ref q := by cases x <;> exact ⟨_, rfl⟩
  have hm := hl.2.2 _ (zLs_mem G L 0 i (zQ x) hx (by simp))
  simp only [List.map_cons] at kk
  rw [hq] at kk hm
  rw [Nat.zero_add] at hm
  exact lv_aload_n cx.1 cx.2.1 hd rfl hm kk
theorem b_ist {f : Fin 4} {x : Int} (i : Nat) (hd : decode y.2.1 pc = .ok (.istore_n f, 1)) (hf : (f : Nat) = i) (hi : i < L.length) (k : zB y Q G (pc + 1) (zst L i (zI x)) S m E) : zB y Q G pc L (zI x :: S) m E := by subst hf; exact b_istore_n hd hi k
theorem b_ast {f : Fin 4} {x : Int} (i : Nat) (hd : decode y.2.1 pc = .ok (.astore_n f, 1)) (hf : (f : Nat) = i) (hi : i < L.length) (k : zB y Q G (pc + 1) (zst L i (zP x)) S m E) : zB y Q G pc L (zP x :: S) m E := by subst hf; exact b_astore_n hd hi k
theorem b_add {a b : Int} (hd : decode y.2.1 pc = .ok (.iadd, 1)) (h : -2147483648 ≤ a + b ∧ a + b < 2147483648) (k : zB y Q G (pc + 1) L (zI (a + b) :: S) m E) : zB y Q G pc L (zI b :: zI a :: S) m E := b_iadd hd (by rw [w32_id h]; exact k)
theorem b_sub {a b : Int} (hd : decode y.2.1 pc = .ok (.isub, 1)) (h : -2147483648 ≤ a - b ∧ a - b < 2147483648) (k : zB y Q G (pc + 1) L (zI (a - b) :: S) m E) : zB y Q G pc L (zI b :: zI a :: S) m E := b_isub hd (by rw [w32_id h]; exact k)
theorem b_inc {i : Nat} {n x : Int} (hd : decode y.2.1 pc = .ok (.iinc i n, 3)) (hx : L[i]? = some (zI x)) (h : -2147483648 ≤ x + n ∧ x + n < 2147483648) (k : zB y Q G (pc + 3) (zst L i (zI (x + n))) S m E) : zB y Q G pc L S m E := b_iinc hd hx (by rw [w32_id h]; exact k)
/-- the script's int at a place -/
def sG (G : zG) (i : Int) : Int := (G.2.2.2.2.2.1 i.toNat).toInt
theorem b_slen (hn : G.2.2.2.2.1 ≤ 3072) (hd : decode y.2.1 pc = .ok (.arraylength, 1)) (k : zB y Q G (pc + 1) L (zI ((G.2.2.2.2.1 : Nat) : Int) :: S) m E) : zB y Q G pc L (zQ 0 :: S) m E := by
  intro p l e s mid args below meth c H locs ls cx hH hS hl hL okL okS g1 g2
  have kk := k p l e s mid args below meth c H locs ls cx hH hS hl hL okL (zok_p (show zok (zI _) from ⟨by omega, by omega⟩) (zok_t okS)) g1 g2
  have hz := cx.2.2.2.2.2.2.2.2.2.1
  have hsz : s.heap.size = G.1 + 0 := cx.2.2.2.2.2.2.2.2.2.2
  have hlt : G.2.2.2.1 < G.1 := hz.2.2.1
  refine va_slen cx.1 cx.2.1 hz.2.1 (by omega) (Nat.not_le.mpr hlt) hS hd ?_
  simp only [List.map_cons, ze] at kk
  exact kk
theorem b_sld {i : Int} (h0 : 0 ≤ i) (hi : i < ((G.2.2.2.2.1 : Nat) : Int)) (hn : G.2.2.2.2.1 ≤ 3072) (hd : decode y.2.1 pc = .ok (.iaload, 1)) (k : zB y Q G (pc + 1) L (zI (sG G i) :: S) m E) : zB y Q G pc L (zI i :: zQ 0 :: S) m E := by
  intro p l e s mid args below meth c H locs ls cx hH hS hl hL okL okS g1 g2
  have kk := k p l e s mid args below meth c H locs ls cx hH hS hl hL okL (zok_p (show zok (zI _) from zr32_of _) (zok_t (zok_t okS))) g1 g2
  have hz := cx.2.2.2.2.2.2.2.2.2.1
  have hsz : s.heap.size = G.1 + 0 := cx.2.2.2.2.2.2.2.2.2.2
  have hlt : G.2.2.2.1 < G.1 := hz.2.2.1
  have hr : zr32 i := ⟨by omega, by omega⟩
  have hin := z32_in hr h0 hi
  rw [Int.toNat_natCast] at hin
  refine va_sld cx.1 cx.2.1 hz.2.1 (by omega) (Nat.not_le.mpr hlt) hS hin hd ?_
  rw [z32_clamp hr h0]
  simp only [List.map_cons, ze, sG, Int32.ofInt_toInt] at kk
  exact kk
theorem b_back {p : Program} {l : Launch} {e : Env} {s : State} {mid : MethodId} {args : Array Value} {below : List Frame} {meth : Method} {c : Code} {H : Heap} {locs : List Loc} {ls : Array Slot} {E1 : zE} {P' : Option zV → zM → Prop} {st : List Value} {a : Array Value}
    (hr : va_Run p l e room_1 s mid args below meth c H locs E.2.1 E.2.2 (E1.2.1 - E.2.1) (E1.2.2 - E.2.2) (F0 mid pc ls st) (S.map (ze G)) (zQc G E1 P' a) (fun q => G.1 ≤ q))
    (cx : zCx G y (eC 0) p s mid args meth c) (hS : va_S (fun q => G.1 ≤ q) s.heap H locs) (hl : lv_has ls y.2.2.1 (zLs G 0 L)) (hL : L.length = y.2.2.1) (okL : ∀ v ∈ L, zok v) (okS : ∀ v ∈ S, zok v) (g1 : args = #[Value.ref G.2.2.2.1]) (g2 : True) (q1 : E.2.1 ≤ E1.2.1) (q2 : E.2.2 ≤ E1.2.2)
    (kk : ∀ r m', P' r m' → zB y Q G (pc + 3) L (r.toList ++ S) m' E1) :
    W p l e room_1 s mid args below meth c H locs E.2.1 E.2.2 (Q below args s) (F0 mid pc ls st) := by
  intro T hT X
  obtain ⟨v, st₀, t, T', L1, h0, X', hL1, e1, e2, ⟨r, m', hv, hp, hH1, hok, hz, hF⟩, st⟩ := hr T hT X
  rw [h0] at hz hF
  have hv : v = r.map (ze G) := by cases hv; rfl
  subst hv
  have c1 : E.2.1 + (E1.2.1 - E.2.1) = E1.2.1 := by omega
  have c2 : E.2.2 + (E1.2.2 - E.2.2) = E1.2.2 := by omega
  rw [c1, c2] at X'
  have okS' : ∀ w ∈ r.toList ++ S, zok w := by
    intro w hw
    rcases List.mem_append.mp hw with h | h
    · cases r with
      | none => simp at h
      | some x => simp at h; subst h; exact hok _ rfl
    · exact okS w h
  obtain ⟨t2, a1, b1⟩ := kk r m' hp p l e s mid args below meth c T'.heap (locs ++ L1) ls cx (by rw [e1]; exact hH1)
    ⟨Nat.le_trans hS.1 (by rw [e1]; exact hz), fun q h1 h2 => by rw [e1, hF q (Nat.lt_of_lt_of_le h1 hS.1) h2]; exact hS.2.1 q h1 h2, fun q hq => by
      rcases List.mem_append.mp hq with h | h
      · exact hS.2.2 q h
      · exact hL1 q h⟩ hl hL okL okS' g1 g2 T' rfl X'
  refine ⟨t2, st t2 ?_, b1⟩
  have e3 : (r.toList ++ S).map (ze G) = (r.map (ze G)).toList ++ S.map (ze G) := by cases r <;> simp
  rw [e3] at a1
  exact a1
theorem b_callV {z : zY} {idx ci n : Nat} {a na : Int} {av : List zV} {E1 : zE} {P' : Option zV → zM → Prop} (hm : zMv y.1.cls idx z ci n) (hd : decode y.2.1 pc = .ok (.invokevirtual idx, 3)) (hs : E.1 a = (ci + 6, na)) (hst : S0 = av.reverse ++ zP a :: S) (hn : av.length = n) (hW : (S.map zcat).sum ≤ 8)
    (hR : zR z 20 (zP a :: av) m E E1 P') (q1 : E.2.1 ≤ E1.2.1) (q2 : E.2.2 ≤ E1.2.2) (q3 : E1.2.1 ≤ 200000) (q4 : E1.2.2 ≤ 2000000) (kk : ∀ r m', P' r m' → zB y Q G (pc + 3) L (r.toList ++ S) m' E1) : zB y Q G pc L S0 m E := by
  intro p l e s mid args below meth c H locs ls cx hH hS hl hL okL okS g1 g2
  subst hst
  obtain ⟨⟨hlk, hco, hini, hdd, h45⟩, hin, hse, T, N, hc⟩ := hm
  have hts := cx.2.2.2.2.2.1
  obtain ⟨b1, b2, -, -⟩ := zH_in hH hs
  have hat := zwl_atI (G := G) (m := m) b1 b2
  rw [zent_obj hs] at hat
  have okav : ∀ v ∈ zP a :: av, zok v := fun v hv => by
    rcases List.mem_cons.mp hv with rfl | h
    · trivial
    · exact okS v (by simp [h])
  have hrec : ∃ cellB : Cell, H[G.1 + a.toNat]? = some cellB ∧ cellB.vm.isStatics = false ∧ s.vm.findClass z.1.cls = some cellB.cls := va_recv cx.2.2.2.2.2.2.2.2.1 hH.1 hc hat
  have hRm : (zrm 20 E E1).frames + 1 ≤ room_1.frames ∧ 8 + (z.2.2.1 + 11) + (zrm 20 E E1).locals ≤ room_1.locals := ⟨by show 20 + 1 ≤ 2048; decide, by show 8 + (z.2.2.1 + 11) + 64 * 20 ≤ 84000; omega⟩
  have hf : E.2.1 + (E1.2.1 - E.2.1) ≤ room_1.cells ∧ E.2.2 + (E1.2.2 - E.2.2) ≤ room_1.slots := ⟨by show _ ≤ 600000; omega, by show _ ≤ 7302250; omega⟩
  have hstk : (F0 mid pc ls ((av.reverse ++ zP a :: S).map (ze G))).stack = (av.map (ze G)).reverse ++ .ref (G.1 + a.toNat) :: S.map (ze G) := by
    show (av.reverse ++ zP a :: S).map (ze G) = _
    rw [List.map_append, List.map_reverse, List.map_cons]
    rfl
  have hmr : 2 * (F0 mid pc ls ((av.reverse ++ zP a :: S).map (ze G))).monitorRoom + ((S.map (ze G)).map fun v => v.category).sum ≤ 8 := lv_room (Nat.le_trans (zcat_le G S) hW)
  have okS2 : ∀ v ∈ S, zok v := fun v hv => okS v (by simp [hv])
  rcases hlk with h | ⟨host, h⟩
  · have cb := callB_of (R := room_1) (rm := zrm 20 E E1) (ws := zws z) n hts (z_goodws z hco) rfl rfl rfl (hts _ hini) (hts _ h) hdd hRm
    exact b_back (va_runV ⟨cx.1, cx.2.1, cx.2.2.1, cx.2.2.2.2.1, hts⟩ (hR l G) ⟨cb, hts _ hin, hts _ hse⟩ ⟨zPc_blind G _ E m, hrec, z_pre cx hH hS okav⟩ rfl (by simp [hn]) hl.1 hstk hmr hd hf) cx hS hl hL okL okS2 g1 g2 q1 q2 kk
  · have cb := va_cnB (R := room_1) (rm := zrm 20 E E1) (ws := zws z) n hts (z_goodws z hco) rfl rfl rfl (cx.2.2.2.2.2.2.2.2.2.1.1 _ h rfl) (hts _ hini) hdd hRm
    exact b_back (va_runVN ⟨cx.1, cx.2.1, cx.2.2.1, cx.2.2.2.2.1, hts⟩ (hR l G) ⟨cb, hts _ hin, hts _ hse⟩ ⟨zPc_blind G _ E m, hrec, z_pre cx hH hS okav⟩ rfl (by simp [hn]) hl.1 hstk hmr hd hf) cx hS hl hL okL okS2 g1 g2 q1 q2 kk
theorem b_callI {z : zY} {idx n : Nat} {a : Int} {av : List zV} {E1 : zE} {P' : Option zV → zM → Prop} (hm : zMi y.1.cls idx z n) (hd : decode y.2.1 pc = .ok (.invokespecial idx, 3)) (hst : S0 = av.reverse ++ zP a :: S) (hn : av.length = n) (hW : (S.map zcat).sum ≤ 8)
    (hR : zR z 20 (zP a :: av) m E E1 P') (q1 : E.2.1 ≤ E1.2.1) (q2 : E.2.2 ≤ E1.2.2) (q3 : E1.2.1 ≤ 200000) (q4 : E1.2.2 ≤ 2000000) (kk : ∀ r m', P' r m' → zB y Q G (pc + 3) L (r.toList ++ S) m' E1) : zB y Q G pc L S0 m E := by
  intro p l e s mid args below meth c H locs ls cx hH hS hl hL okL okS g1 g2
  subst hst
  obtain ⟨⟨hlk, hco, hini, hdd, h45⟩, hnm, hin, hret⟩ := hm
  have hts := cx.2.2.2.2.2.1
  have okav : ∀ v ∈ zP a :: av, zok v := fun v hv => by
    rcases List.mem_cons.mp hv with rfl | h
    · trivial
    · exact okS v (by simp [h])
  have hRm : (zrm 20 E E1).frames + 1 ≤ room_1.frames ∧ 8 + (z.2.2.1 + 11) + (zrm 20 E E1).locals ≤ room_1.locals := ⟨by show 20 + 1 ≤ 2048; decide, by show 8 + (z.2.2.1 + 11) + 64 * 20 ≤ 84000; omega⟩
  have hf : E.2.1 + (E1.2.1 - E.2.1) ≤ room_1.cells ∧ E.2.2 + (E1.2.2 - E.2.2) ≤ room_1.slots := ⟨by show _ ≤ 600000; omega, by show _ ≤ 7302250; omega⟩
  have hstk : (F0 mid pc ls ((av.reverse ++ zP a :: S).map (ze G))).stack = (av.map (ze G)).reverse ++ .ref (G.1 + a.toNat) :: S.map (ze G) := by
    show (av.reverse ++ zP a :: S).map (ze G) = _
    rw [List.map_append, List.map_reverse, List.map_cons]
    rfl
  have hmr : 2 * (F0 mid pc ls ((av.reverse ++ zP a :: S).map (ze G))).monitorRoom + ((S.map (ze G)).map fun v => v.category).sum ≤ 8 := lv_room (Nat.le_trans (zcat_le G S) hW)
  have okS2 : ∀ v ∈ S, zok v := fun v hv => okS v (by simp [hv])
  have hR := hR l G
  unfold zws at hR
  rw [hret] at hR hco
  have hgw : GoodIn zgood (Cond.code z.1 z.2.1 z.2.2.1 none :: zgood) := by
    intro w hw
    rcases List.mem_cons.mp hw with rfl | h1
    · exact zgood_all _ hco
    · exact zgood_all _ h1
  rcases hlk with h | ⟨host, h⟩
  · have cb := callB_of (R := room_1) (rm := zrm 20 E E1) (ws := Cond.code z.1 z.2.1 z.2.2.1 none :: zgood) n hts hgw rfl rfl rfl (hts _ hini) (hts _ h) hdd hRm
    exact b_back (va_runI ⟨cx.1, cx.2.1, cx.2.2.1, cx.2.2.2.2.1, hts⟩ hR ⟨cb, hnm, hts _ hin⟩ ⟨zPc_blind G _ E m, z_pre cx hH hS okav⟩ rfl (by simp [hn]) hl.1 hstk hmr hd hf) cx hS hl hL okL okS2 g1 g2 q1 q2 kk
  · have cb := va_cnB (R := room_1) (rm := zrm 20 E E1) (ws := Cond.code z.1 z.2.1 z.2.2.1 none :: zgood) n hts hgw rfl rfl rfl (cx.2.2.2.2.2.2.2.2.2.1.1 _ h rfl) (hts _ hini) hdd hRm
    exact b_back (va_runIN ⟨cx.1, cx.2.1, cx.2.2.1, cx.2.2.2.2.1, hts⟩ hR ⟨cb, hnm, hts _ hin⟩ ⟨zPc_blind G _ E m, z_pre cx hH hS okav⟩ rfl (by simp [hn]) hl.1 hstk hmr hd hf) cx hS hl hL okL okS2 g1 g2 q1 q2 kk
theorem b_new {idx ci N : Nat} (hw : zNw y.1.cls idx ci N) (hd : decode y.2.1 pc = .ok (.new idx, 3)) (hc : E.2.1 + 1 ≤ 600000) (hsl : E.2.2 + N ≤ 7302250) (hN : N < 100) (kk : zB y Q G (pc + 3) L (zP E.2.1 :: S) (zfill m E.2.1 (zblank ci)) (znew E (ci + 6) N N)) : zB y Q G pc L S m E := by
  intro p l e s mid args below meth c H locs ls cx hH hS hl hL okL okS g1 g2
  obtain ⟨C, T, hcl, w1, w2, w3, w4⟩ := hw
  have hts := cx.2.2.2.2.2.1
  have hK := cx.2.2.2.2.2.2.2.2.1
  have hKn := hK.1 ci _ hcl
  refine W.newcK cx.1 cx.2.1 cx.2.2.2.2.1 (hts _ w1) (hts _ w2) (hts _ w3) rfl hd (by show _ ≤ 600000; omega) (by show _ ≤ 7302250; omega) hKn.2.1 hH.2.1 fun H1 kC hkC e2 z oq => ?_
  have z1 : H1.size = H.size + 1 := by rw [z, hH.2.1]
  have oq1 : ∀ q, q < H.size → H1[q]? = H[q]? := fun q hq => oq q (by rw [← hH.2.1]; exact hq)
  have hok : ∀ j : Nat, zokS (zsk (znew E (ci + 6) N N) E.2.1 j) (zblank ci j) := by
    intro j
    simp only [zsk, znew, if_true, zblank, Int.toNat_natCast]
    exact zbl1 _
  have hat : va_at G.2.1 zcl (G.1 + E.2.1, zent G (znew E (ci + 6) N N) (zfill m E.2.1 (zblank ci)) E.2.1) H1 := by
    rw [zent_obj (n := (N : Int)) (ci := ci) (by simp [znew])]
    refine ⟨_, hcl, (u_born (zty ci) hts (zcl_in hcl) hKn hkC e2 (zcl_ty hcl)).to (fun j hj => ?_)⟩
    have hj : j < N := hj
    simp only [vp_V, List.getD, zcl_nf hcl, List.getElem?_map, List.getElem?_range hj, Option.map_some, Option.getD_some, zfill, if_true, zblank, Int.toNat_natCast]
    exact zbl2 G _ (w4 j hj).1 (w4 j hj).2
  have kk := kk p l e s mid args below meth c H1 locs ls cx (zH_new hH hat z1 oq1 ⟨by omega, by omega⟩ hok) (zS_new hS z1 oq1) hl hL okL (zok_p trivial okS) g1 g2
  exact kk
theorem b_mko {k idx ci N : Nat} (hw : zNw y.1.cls idx ci N) (hd : decode y.2.1 pc = .ok (.new idx, 3)) (hs : zsA[k]? = some (ci + 6, (N : Int))) (hN : N < 100) (hc : k + 1 ≤ 600000) (hsl : eSl (k + 1) ≤ 7302250) (kk : zB y Q G (pc + 3) L (zP (k : Int) :: S) (zfill m (k : Int) (zblank ci)) (eC (k + 1))) : zB y Q G pc L S m (eC k) := by
  have e := eC_s hs
  rw [Int.toNat_natCast] at e
  have e2 : eSl k + N = eSl (k + 1) := congrArg (fun q => q.2.2) e
  exact b_new hw hd hc (by show eSl k + N ≤ _; omega) hN (by rw [e]; exact kk)
theorem b_eq {L' S' : List zV} {pc' : Nat} (hp : pc = pc') (hL : L = L') (hS : S = S') (k : zB y Q G pc' L' S' m E) : zB y Q G pc L S m E := by subst hp; subst hL; subst hS; exact k
end ZBR
