/-! entry; arithmetic that stays in its range -/
def zL1 : List zV → List zV
  | [] => []
  | .inl (.inr x) :: av => .inl (.inr x) :: zN :: zL1 av
  | v :: av => v :: zL1 av
def zL0 (n : Nat) (av : List zV) : List zV := zL1 av ++ List.replicate (n - (av.map zcat).sum) zN
theorem zL1_len : ∀ av : List zV, (zL1 av).length = (av.map zcat).sum
  | [] => rfl
  | .inl (.inr x) :: av => by simp only [zL1, List.length_cons, zL1_len av, List.map_cons, List.sum_cons, zcat]; omega
  | .inl (.inl x) :: av => by simp only [zL1, List.length_cons, zL1_len av, List.map_cons, List.sum_cons, zcat]; omega
  | .inr x :: av => by simp only [zL1, List.length_cons, zL1_len av, List.map_cons, List.sum_cons, zcat]; omega
theorem zLs_N (G : zG) : ∀ (n i : Nat), zLs G i (List.replicate n zN) = []
  | 0, _ => rfl
  | n + 1, i => by rw [List.replicate_succ]; exact zLs_N G n (i + 1)
theorem zL1_args (G : zG) : ∀ (av : List zV) (i n : Nat), (∀ v ∈ av, v ≠ .inr none) → lv_args i (av.map (ze G)) = zLs G i (zL1 av ++ List.replicate n zN)
  | [], i, n, _ => (zLs_N G n i).symm
  | .inl (.inr x) :: av, i, n, h => by
    have := zL1_args G av (i + 2) n (fun v hv => h v (List.mem_cons_of_mem _ hv))
    simp only [List.map_cons, ze, lv_args, Value.category, if_true, this, zL1, List.cons_append, zLs]
  | .inl (.inl x) :: av, i, n, h => by
    have := zL1_args G av (i + 1) n (fun v hv => h v (List.mem_cons_of_mem _ hv))
    simp [ze, lv_args, Value.category, this, zL1, zLs]
  | .inr none :: av, i, n, h => absurd rfl (h _ List.mem_cons_self)
  | .inr (some (.inl x)) :: av, i, n, h => by
    have := zL1_args G av (i + 1) n (fun v hv => h v (List.mem_cons_of_mem _ hv))
    simp [ze, lv_args, Value.category, this, zL1, zLs]
  | .inr (some (.inr 0)) :: av, i, n, h => by
    have := zL1_args G av (i + 1) n (fun v hv => h v (List.mem_cons_of_mem _ hv))
    simp [ze, lv_args, Value.category, this, zL1, zLs]
  | .inr (some (.inr (k + 1))) :: av, i, n, h => by
    have := zL1_args G av (i + 1) n (fun v hv => h v (List.mem_cons_of_mem _ hv))
    simp [ze, lv_args, Value.category, this, zL1, zLs]
theorem zL1_ok : ∀ (av : List zV), (∀ v ∈ av, zok v) → ∀ v ∈ zL1 av, zok v
  | [], _, v, hv => by simp [zL1] at hv
  | .inl (.inr x) :: av, h, v, hv => by
    simp only [zL1, List.mem_cons] at hv
    rcases hv with rfl | rfl | hv
    · exact h _ List.mem_cons_self
    · trivial
    · exact zL1_ok av (fun w hw => h w (List.mem_cons_of_mem _ hw)) v hv
  | .inl (.inl x) :: av, h, v, hv => by
    simp only [zL1, List.mem_cons] at hv
    rcases hv with rfl | hv
    · exact h _ List.mem_cons_self
    · exact zL1_ok av (fun w hw => h w (List.mem_cons_of_mem _ hw)) v hv
  | .inr x :: av, h, v, hv => by
    simp only [zL1, List.mem_cons] at hv
    rcases hv with rfl | hv
    · exact h _ List.mem_cons_self
    · exact zL1_ok av (fun w hw => h w (List.mem_cons_of_mem _ hw)) v hv
theorem zsl_len (G : zG) : ∀ av : List zV, (lg_sl (av.map (ze G))).length ≤ (av.map zcat).sum
  | [] => Nat.le_refl _
  | v :: av => by
    have := zsl_len G av
    have h : (if (ze G v).category = 2 then [Slot.val (ze G v), .second] else [Slot.val (ze G v)]).length ≤ zcat v := by
      rcases v with (v | v) | (_ | (v | (_ | v))) <;> simp [ze, Value.category, zcat]
    simp only [lg_sl, List.map_cons, List.flatMap_cons, List.length_append, List.sum_cons] at this ⊢
    omega
def zset (v : zV) : Bool := match v with
  | .inr none => false
  | _ => true
/-- A METHOD'S CONTRACT OUT OF ITS WALK -/
theorem zR_go {y : zY} {d : Nat} {av : List zV} {m : zM} {E E' : zE} {P : Option zV → zM → Prop} (L : List zV) (hy : plainName y.1.cls = true) (hn : (av.map zcat).sum ≤ y.2.2.1) (hset : av.all zset = true) (hL0 : zL0 y.2.2.1 av = L)
    (k : zA y d E E' P 0 L [] m E) : zR y d av m E E' P := by
  subst hL0
  have hs : ∀ v ∈ av, v ≠ .inr none := fun v hv e => by
    have := List.all_eq_true.mp hset v hv
    rw [e] at this
    cases this
  refine zR_of hy (fun G => zL1_args G av 0 _ hs) ?_ (fun G => Nat.le_trans (zsl_len G av) hn) (fun h v hv => ?_) k
  · show (zL1 av ++ List.replicate _ zN).length = _
    rw [List.length_append, zL1_len, List.length_replicate]; omega
  · rcases List.mem_append.mp hv with h1 | h1
    · exact zL1_ok av h v h1
    · rw [(List.mem_replicate.mp h1).2]; trivial
section ZR5
variable {y : zY} {d : Nat} {E0 E' E : zE} {P : Option zV → zM → Prop} {pc : Nat} {L S : List zV} {m : zM}
theorem z_add {a b : Int} (hd : decode y.2.1 pc = .ok (.iadd, 1)) (h : -2147483648 ≤ a + b ∧ a + b < 2147483648) (k : zA y d E0 E' P (pc + 1) L (zI (a + b) :: S) m E) : zA y d E0 E' P pc L (zI b :: zI a :: S) m E := z_iadd hd (by rw [w32_id h]; exact k)
theorem z_sub {a b : Int} (hd : decode y.2.1 pc = .ok (.isub, 1)) (h : -2147483648 ≤ a - b ∧ a - b < 2147483648) (k : zA y d E0 E' P (pc + 1) L (zI (a - b) :: S) m E) : zA y d E0 E' P pc L (zI b :: zI a :: S) m E := z_isub hd (by rw [w32_id h]; exact k)
theorem z_mul {a b : Int} (hd : decode y.2.1 pc = .ok (.imul, 1)) (h : -2147483648 ≤ a * b ∧ a * b < 2147483648) (k : zA y d E0 E' P (pc + 1) L (zI (a * b) :: S) m E) : zA y d E0 E' P pc L (zI b :: zI a :: S) m E := z_imul hd (by rw [w32_id h]; exact k)
theorem z_neg {a : Int} (hd : decode y.2.1 pc = .ok (.ineg, 1)) (h : -2147483648 ≤ -a ∧ -a < 2147483648) (k : zA y d E0 E' P (pc + 1) L (zI (-a) :: S) m E) : zA y d E0 E' P pc L (zI a :: S) m E := z_ineg hd (by rw [zneg, w32_id h]; exact k)
theorem z_inc {i : Nat} {n x : Int} (hd : decode y.2.1 pc = .ok (.iinc i n, 3)) (hx : L[i]? = some (zI x)) (h : -2147483648 ≤ x + n ∧ x + n < 2147483648) (k : zA y d E0 E' P (pc + 3) (zst L i (zI (x + n))) S m E) : zA y d E0 E' P pc L S m E := z_iinc hd hx (by rw [w32_id h]; exact k)
theorem zdiv_id {a b : Int} (ha : zr32 a) (hb : zr32 b) (h0 : 0 ≤ a) (h1 : 0 < b) : zdiv a b = a / b := by
  unfold zdiv
  rw [Int32.toInt_div, z32_toInt ha, z32_toInt hb, Int.tdiv_eq_ediv_of_nonneg h0]
  have h2 := Int.ediv_nonneg h0 (Int.le_of_lt h1)
  have h3 := Int.ediv_le_self b h0
  have := ha.2
  exact Int.bmod_eq_of_le (by omega) (by omega)
theorem z_div {a b : Int} (hd : decode y.2.1 pc = .ok (.idiv, 1)) (h0 : 0 ≤ a) (h1 : 0 < b) (k : zA y d E0 E' P (pc + 1) L (zI (a / b) :: S) m E) : zA y d E0 E' P pc L (zI b :: zI a :: S) m E :=
  zA_okL fun _ okS _ => z_idiv hd (by omega) (by rw [zdiv_id (zok_h (zok_t okS)) (zok_h okS) h0 h1]; exact k)
theorem zrem_id {a b : Int} (ha : zr32 a) (hb : zr32 b) (h0 : 0 ≤ a) (h1 : 0 < b) : zrem a b = a % b := by
  have e : Int32.ofInt a / Int32.ofInt b = Int32.ofInt (a / b) := by
    apply Int32.toInt_inj.mp
    have h2 := Int.ediv_nonneg h0 (Int.le_of_lt h1)
    have h3 := Int.ediv_le_self b h0
    have h4 := ha.2
    rw [z32_toInt ⟨by omega, by omega⟩]
    exact zdiv_id ha hb h0 h1
  unfold zrem
  rw [e, ← Int32.ofInt_mul, ← Int32.ofInt_sub]
  have h5 : a - a / b * b = a % b := by rw [Int.mul_comm]; have := Int.mul_ediv_add_emod a b; omega
  rw [h5]
  have h6 := Int.emod_nonneg a (by omega : b ≠ 0)
  have h7 := Int.emod_lt_of_pos a h1
  have := hb.2
  exact z32_toInt ⟨by omega, by omega⟩
theorem z_rem {a b : Int} (hd : decode y.2.1 pc = .ok (.irem, 1)) (h0 : 0 ≤ a) (h1 : 0 < b) (k : zA y d E0 E' P (pc + 1) L (zI (a % b) :: S) m E) : zA y d E0 E' P pc L (zI b :: zI a :: S) m E :=
  zA_okL fun _ okS _ => z_irem hd (by omega) (by rw [zrem_id (zok_h (zok_t okS)) (zok_h okS) h0 h1]; exact k)
theorem z_ladd' {a b : Int} (hd : decode y.2.1 pc = .ok (.ladd, 1)) (h : -9223372036854775808 ≤ a + b ∧ a + b < 9223372036854775808) (k : zA y d E0 E' P (pc + 1) L (zJ (a + b) :: S) m E) : zA y d E0 E' P pc L (zJ b :: zJ a :: S) m E := z_ladd hd (by rw [w64_id h]; exact k)
theorem z_lsub' {a b : Int} (hd : decode y.2.1 pc = .ok (.lsub, 1)) (h : -9223372036854775808 ≤ a - b ∧ a - b < 9223372036854775808) (k : zA y d E0 E' P (pc + 1) L (zJ (a - b) :: S) m E) : zA y d E0 E' P pc L (zJ b :: zJ a :: S) m E := z_lsub hd (by rw [w64_id h]; exact k)
theorem z_lmul' {a b : Int} (hd : decode y.2.1 pc = .ok (.lmul, 1)) (h : -9223372036854775808 ≤ a * b ∧ a * b < 9223372036854775808) (k : zA y d E0 E' P (pc + 1) L (zJ (a * b) :: S) m E) : zA y d E0 E' P pc L (zJ b :: zJ a :: S) m E := z_lmul hd (by rw [w64_id h]; exact k)
/-- other locals and stack, written otherwise -/
theorem zA_eq {L' S' : List zV} {pc' : Nat} (hp : pc = pc') (hL : L = L') (hS : S = S') (k : zA y d E0 E' P pc' L' S' m E) : zA y d E0 E' P pc L S m E := by subst hp; subst hL; subst hS; exact k
theorem zA_m {m' : zM} (hm : m = m') (k : zA y d E0 E' P pc L S m' E) : zA y d E0 E' P pc L S m E := by subst hm; exact k
theorem z_iushr {a b : Int} (hd : decode y.2.1 pc = .ok (.iushr, 1)) (k : zA y d E0 E' P (pc + 1) L (zI ((Int32.ofInt a).toUInt32 >>> ((Int32.ofInt b).toUInt32 &&& Int32.toUInt32 31)).toInt32.toInt :: S) m E) : zA y d E0 E' P pc L (zI b :: zI a :: S) m E := by
  intro G p l e s mid args below meth c H locs ls cx hH hS hl hL okL okS g1 g2
  have kk := k G p l e s mid args below meth c H locs ls cx hH hS hl hL okL (zok_p (show zok (zI _) from zr32_of _) (zok_t (zok_t okS))) g1 g2
  refine lv_iushr cx.1 cx.2.1 (v := ((Int32.ofInt a).toUInt32 >>> ((Int32.ofInt b).toUInt32 &&& Int32.toUInt32 31)).toInt32) hd rfl ?_
  simp only [List.map_cons, ze, Int32.ofInt_toInt] at kk ⊢
  exact kk
end ZR5
/-- a contract weakened -/
theorem zR_imp {y : zY} {d : Nat} {av : List zV} {m : zM} {E E' : zE} {P P' : Option zV → zM → Prop} (h : zR y d av m E E' P) (hi : ∀ r m', P r m' → P' r m') : zR y d av m E E' P' := by
  intro l G p e h1 h2 h3 s m args below h4 h5 h6 h7
  obtain ⟨n, o, a1, a2, a3, ⟨⟨r, m', b1, b2, b3⟩, b4⟩⟩ := h l G p e h1 h2 h3 s m args below h4 h5 h6 h7
  exact ⟨n, o, a1, a2, a3, ⟨r, m', b1, hi r m' b2, b3⟩, b4⟩
/-- what a contract may take as given: its numbers are in their ranges -/
theorem zR_ok {y : zY} {d : Nat} {av : List zV} {m : zM} {E E' : zE} {P : Option zV → zM → Prop} (h : (∀ v ∈ av, zok v) → zokM E m → zR y d av m E E' P) : zR y d av m E E' P := by
  intro l G p e h1 h2 h3 s m args below h4 h5 h6 h7
  exact h h6.2.2.2.2 h6.2.1.2.2 l G p e h1 h2 h3 s m args below h4 h5 h6 h7
theorem zc0 {w : Cond} (h : w ∈ k2_sels lw_privs) : w ∈ lw_tbl := List.mem_append_left _ h
theorem zct {w : Cond} (h : w ∈ tables_1) : w ∈ lw_tbl := List.mem_append_right _ h
theorem zc1 {w : Cond} (h : w ∈ tables_1_1) : w ∈ lw_tbl := zct (List.mem_append_left _ h)
theorem zc2 {w : Cond} (h : w ∈ tables_1_2) : w ∈ lw_tbl := zct (List.mem_append_right _ (List.mem_append_left _ h))
theorem zc3 {w : Cond} (h : w ∈ tables_1_3) : w ∈ lw_tbl := zct (List.mem_append_right _ (List.mem_append_right _ (List.mem_append_left _ h)))
theorem zc4 {w : Cond} (h : w ∈ tables_1_4) : w ∈ lw_tbl := zct (List.mem_append_right _ (List.mem_append_right _ (List.mem_append_right _ (List.mem_append_left _ h))))
theorem zc5 {w : Cond} (h : w ∈ tables_1_5) : w ∈ lw_tbl := zct (List.mem_append_right _ (List.mem_append_right _ (List.mem_append_right _ (List.mem_append_right _ (List.mem_append_left _ h)))))
theorem zc6 {w : Cond} (h : w ∈ tables_1_6) : w ∈ lw_tbl := zct (List.mem_append_right _ (List.mem_append_right _ (List.mem_append_right _ (List.mem_append_right _ (List.mem_append_right _ (List.mem_append_left _ h))))))
theorem zc7 {w : Cond} (h : w ∈ tables_1_7) : w ∈ lw_tbl := zct (List.mem_append_right _ (List.mem_append_right _ (List.mem_append_right _ (List.mem_append_right _ (List.mem_append_right _ (List.mem_append_right _ (List.mem_append_left _ h)))))))
theorem zc8 {w : Cond} (h : w ∈ tables_1_8) : w ∈ lw_tbl := zct (List.mem_append_right _ (List.mem_append_right _ (List.mem_append_right _ (List.mem_append_right _ (List.mem_append_right _ (List.mem_append_right _ (List.mem_append_right _ (List.mem_append_left _ h))))))))
theorem zc9 {w : Cond} (h : w ∈ tables_1_9) : w ∈ lw_tbl := zct (List.mem_append_right _ (List.mem_append_right _ (List.mem_append_right _ (List.mem_append_right _ (List.mem_append_right _ (List.mem_append_right _ (List.mem_append_right _ (List.mem_append_right _ (h)))))))))
theorem zg0 (i : Nat) {w : Cond} (h : (k2_sels lw_privs)[i]? = some w) (hg : goodWord w = true) : w ∈ zgood := zgood_mem (zc0 (List.mem_of_getElem? h)) hg
theorem zn0 (i : Nat) {w : Cond} (h : (k2_sels lw_privs)[i]? = some w) : w ∈ lw_tbl := zc0 (List.mem_of_getElem? h)
theorem zg1 (i : Nat) {w : Cond} (h : tables_1_1[i]? = some w) (hg : goodWord w = true) : w ∈ zgood := zgood_mem (zc1 (List.mem_of_getElem? h)) hg
theorem zn1 (i : Nat) {w : Cond} (h : tables_1_1[i]? = some w) : w ∈ lw_tbl := zc1 (List.mem_of_getElem? h)
theorem zg2 (i : Nat) {w : Cond} (h : tables_1_2[i]? = some w) (hg : goodWord w = true) : w ∈ zgood := zgood_mem (zc2 (List.mem_of_getElem? h)) hg
theorem zn2 (i : Nat) {w : Cond} (h : tables_1_2[i]? = some w) : w ∈ lw_tbl := zc2 (List.mem_of_getElem? h)
theorem zg3 (i : Nat) {w : Cond} (h : tables_1_3[i]? = some w) (hg : goodWord w = true) : w ∈ zgood := zgood_mem (zc3 (List.mem_of_getElem? h)) hg
theorem zn3 (i : Nat) {w : Cond} (h : tables_1_3[i]? = some w) : w ∈ lw_tbl := zc3 (List.mem_of_getElem? h)
theorem zg4 (i : Nat) {w : Cond} (h : tables_1_4[i]? = some w) (hg : goodWord w = true) : w ∈ zgood := zgood_mem (zc4 (List.mem_of_getElem? h)) hg
theorem zn4 (i : Nat) {w : Cond} (h : tables_1_4[i]? = some w) : w ∈ lw_tbl := zc4 (List.mem_of_getElem? h)
theorem zg5 (i : Nat) {w : Cond} (h : tables_1_5[i]? = some w) (hg : goodWord w = true) : w ∈ zgood := zgood_mem (zc5 (List.mem_of_getElem? h)) hg
theorem zn5 (i : Nat) {w : Cond} (h : tables_1_5[i]? = some w) : w ∈ lw_tbl := zc5 (List.mem_of_getElem? h)
theorem zg6 (i : Nat) {w : Cond} (h : tables_1_6[i]? = some w) (hg : goodWord w = true) : w ∈ zgood := zgood_mem (zc6 (List.mem_of_getElem? h)) hg
theorem zn6 (i : Nat) {w : Cond} (h : tables_1_6[i]? = some w) : w ∈ lw_tbl := zc6 (List.mem_of_getElem? h)
theorem zg7 (i : Nat) {w : Cond} (h : tables_1_7[i]? = some w) (hg : goodWord w = true) : w ∈ zgood := zgood_mem (zc7 (List.mem_of_getElem? h)) hg
theorem zn7 (i : Nat) {w : Cond} (h : tables_1_7[i]? = some w) : w ∈ lw_tbl := zc7 (List.mem_of_getElem? h)
theorem zg8 (i : Nat) {w : Cond} (h : tables_1_8[i]? = some w) (hg : goodWord w = true) : w ∈ zgood := zgood_mem (zc8 (List.mem_of_getElem? h)) hg
theorem zn8 (i : Nat) {w : Cond} (h : tables_1_8[i]? = some w) : w ∈ lw_tbl := zc8 (List.mem_of_getElem? h)
theorem zg9 (i : Nat) {w : Cond} (h : tables_1_9[i]? = some w) (hg : goodWord w = true) : w ∈ zgood := zgood_mem (zc9 (List.mem_of_getElem? h)) hg
theorem zn9 (i : Nat) {w : Cond} (h : tables_1_9[i]? = some w) : w ∈ lw_tbl := zc9 (List.mem_of_getElem? h)
