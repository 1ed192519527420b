theorem core_is {T : zT} {X : Int → Int} (h : tA T X) {dd w : Int} (hw : 0 ≤ w ∧ w ≤ 2) (hd : 0 ≤ dd ∧ dd < ((tD T).length : Int)) (hon : gOn (tH T) (gFr (tCo T dd)) (gTo (tCo T dd)) (tAll T.1)) : aCore T dd w = (0, if w = 0 then ((sPop 12 (gRs (gNb (gFr (tCo T dd)) (gTo (tCo T dd)) (tH T)) (tAll T.1) (tOut T.1)) : Nat) : Int) else if w = 1 then zsum (fun k => zb ((gRs (gNb (gFr (tCo T dd)) (gTo (tCo T dd)) (tH T)) (tAll T.1) (tOut T.1)).testBit (gFr (tCo T dd) k.toNat) = true ∧ (gRs (gNb (gFr (tCo T dd)) (gTo (tCo T dd)) (tH T)) (tAll T.1) (tOut T.1)).testBit (gTo (tCo T dd) k.toNat) = true)) (tH T) 0 else (((gRs (gNb (gFr (tCo T dd)) (gTo (tCo T dd)) (tH T)) (tAll T.1) (tOut T.1)) : Nat) : Int)) := by
  have e : (gRs (gNb (gFr (tCo T dd)) (gTo (tCo T dd)) (tH T)) (tAll T.1) (tOut T.1)) = tAll T.1 ^^^ (tAll T.1 &&& tLost T.1 (tH T) (tCo T dd) (tAll T.1)) := hang_is hon
  have hr := gRs_is (N := gNb (gFr (tCo T dd)) (gTo (tCo T dd)) (tH T)) (A := tOut T.1) hon.1
  unfold aCore
  rw [if_neg (not_not_intro hw), if_neg (not_not_intro hd), ← e]
  generalize (gRs (gNb (gFr (tCo T dd)) (gTo (tCo T dd)) (tH T)) (tAll T.1) (tOut T.1)) = G at *
  by_cases w0 : w = 0
  · rw [if_pos w0, if_pos w0, ← sPop_z (n := 8) (k := 4) (show G < 2 ^ 8 from hr.1)]
  · rw [if_neg w0, if_neg w0]
    by_cases w1 : w = 1
    · have hi : ∀ k : Int, 0 ≤ k → k < 0 + (tH T : Int) → (G.testBit (tCo T dd k / 100).toNat = true ↔ G.testBit (gFr (tCo T dd) k.toNat) = true ∧ G.testBit (gTo (tCo T dd) k.toNat) = true) := fun k k0 k1 => by
        obtain ⟨kn', rfl⟩ := Int.eq_ofNat_of_zero_le k0
        have hk : kn' < tH T := by omega
        have hb := hon.2 kn' hk
        show G.testBit (gFr (tCo T dd) kn') = true ↔ G.testBit (gFr (tCo T dd) kn') = true ∧ G.testBit (gTo (tCo T dd) kn') = true
        exact ⟨fun g => ⟨g, hr.2.2.2.1 _ _ (bit8 hr.1 g) g ((gNb_bit _ _ _ _ _).mpr ⟨kn', hk, Or.inl ⟨rfl, rfl⟩⟩) hb.2⟩, fun g => g.1⟩
      rw [if_pos w1, if_pos w1, zsum_congr (f := fun k => zb (G.testBit (tCo T dd k / 100).toNat = true)) (g := fun k => zb (G.testBit (gFr (tCo T dd) k.toNat) = true ∧ G.testBit (gTo (tCo T dd) k.toNat) = true)) (fun k k0 k1 => zb_congr (hi k k0 k1))]
    · rw [if_neg w1, if_neg w1]
/-- a print leaves these -/
def pFr (m m' : zM) : Prop := ∀ a k : Int, (a = 0 ∨ (1 ≤ a ∧ a ≤ 5) ∨ (39 ≤ a ∧ a < 121)) → m' a k = m a k
theorem pFr_tr {m m1 m2 : zM} (h : pFr m m1) (g : pFr m1 m2) : pFr m m2 := fun a k q => (g a k q).trans (h a k q)
theorem pFr_q {m m' : zM} (h : qFr m m') : pFr m m' := fun a k q => h a k (by omega)
theorem cJ_p {m m' : zM} {E : zE} {T : zT} {X : Int → Int} {t s a cap a2 cap2 ka kcap b bcap : Int} (h : cJ m E T X t s a cap a2 cap2 ka kcap b bcap) (f : zfr (fP 37) m m') : cJ m' E T X t s a cap a2 cap2 ka kcap b bcap ∧ pFr m m' ∧ m' 14 19 = m 14 19 ∧ m' 8 5 = m 8 5 := by
  have ff : ∀ x k : Int, x ≠ 38 → (x ≠ 37 ∨ k ≠ 1) → m' x k = m x k := fun x k q r => f x k (by simp [fP]; omega) (by simp [fP]; omega)
  exact ⟨cJ_loc h (fun x k q => ff x k (by omega) (by omega)), fun x k q => ff x k (by omega) (by omega), ff 14 19 (by omega) (by omega), ff 8 5 (by omega) (by omega)⟩
theorem cTx_q {m m' : zM} {L : List Int} (h : cTx m L) (q : qFr m m') : cTx m' L := by
  unfold cTx
  rw [q 37 1 (by omega)]
  exact ⟨h.1, h.2.1, fun t x e => by rw [q 38 _ (by omega)]; exact h.2.2 t x e⟩
theorem cTx_0 {m : zM} (h : m 37 1 = 0) : cTx m [] := ⟨h, by decide, fun t x e => by simp at e⟩
theorem cTx_ap {m m' : zM} {L L2 : List Int} (h : cTx m L) (g : cOt m m' 37 L2) (hl : L.length + L2.length ≤ 48) : cTx m' (L ++ L2) := by
  refine ⟨by rw [g.1, h.1, List.length_append]; omega, by rw [List.length_append]; exact hl, fun t x e => ?_⟩
  rcases Nat.lt_or_ge t L.length with q | q
  · rw [List.getElem?_append_left q] at e
    have := g.2.2.1 (t : Int) (by rw [h.1]; omega)
    rw [show (37 : Int) + 1 = 38 from rfl] at this
    rw [this]
    exact h.2.2 t x e
  · rw [List.getElem?_append_right q] at e
    have := g.2.1 _ x e
    rw [h.1, show (37 : Int) + 1 = 38 from rfl, show (L.length : Int) + ((t - L.length : Nat) : Int) = (t : Int) by omega] at this
    exact this
def cPq (m m' : zM) (E' : zE) (T : zT) (X : Int → Int) (st : Int) (L : List Int) : Prop := (∃ t s a cap a2 cap2 ka kcap b bcap, cJ m' E' T X t s a cap a2 cap2 ka kcap b bcap) ∧ (∀ a k : Int, ((1 ≤ a ∧ a ≤ 5) ∨ (95 ≤ a ∧ a < 121)) → m' a k = m a k) ∧ m' 0 11 = st ∧ cTx m' L
theorem cPq_st {m m1 : zM} {E : zE} {T : zT} {X : Int → Int} {t s a cap a2 cap2 ka kcap b bcap : Int} (h : cJ m1 E T X t s a cap a2 cap2 ka kcap b bcap) (q : pFr m m1) {L : List Int} (x : cTx m1 L) (v : Int) : cPq m (zu m1 0 11 v) E T X v L := ⟨⟨t, s, a, cap, a2, cap2, ka, kcap, b, bcap, cJ_st h v⟩, fun x k g => (by rw [zu_a (by omega)]; exact q x k (by omega)), zu_s, by
  unfold cTx
  rw [zu_a (by decide)]
  exact ⟨x.1, x.2.1, fun t y e => by rw [zu_a (by decide)]; exact x.2.2 t y e⟩⟩
theorem row_iv {T : zT} {X : Int → Int} (h : tA T X) {k : Int} (k0 : 0 ≤ k) (k1 : k < lT T) {i : Int} (i0 : 0 ≤ i) (i1 : i < T.2.2.2) : tMt T k i ≠ i ∧ tMt T k (tMt T k i) = i := by
  have hn := tA_n h
  have hni := nT_i h
  have hra := row_at h k0 k1 i0 i1
  obtain ⟨kn', rfl⟩ := Int.eq_ofNat_of_zero_le k0
  have hk := tMt_k (T := T) (k := kn') (by unfold lT at k1; omega)
  have hr := prs_ok h _ (List.mem_of_getElem? hk)
  have e := sMk_fA hn (tMt T (kn' : Int)) i i0 (by omega)
  have e2 := sMk_fA hn (tMt T (kn' : Int)) _ hra.1 (by omega)
  have q := hr.1 i i0 (by omega)
  rw [e] at q
  have q2 := q hra.1
  rw [e2] at q2
  exact ⟨q2.2.1, q2.2.2⟩
theorem pp_len (mt : Int → Int) : ∀ s : Nat, ((sCat (pPr mt) s 0).length : Int) ≤ 6 * zsum (fun i => zb (¬ mt i < i)) s 0
  | 0 => by simp [sCat, zsum]
  | s + 1 => by
    have h := pp_len mt s
    have h1 := pPr_len mt (s : Int)
    rw [sCat_snoc, List.length_append, zsum_app _ s 1 0, zsum_s, zsum_0, Int.zero_add, Int.add_zero]
    by_cases e : mt (s : Int) < (s : Int)
    · rw [zb_f (not_not_intro e), show pPr mt (s : Int) = [] from if_pos e]
      simp only [List.length_nil]
      omega
    · rw [zb_t e]
      omega
theorem row_op {T : zT} {X : Int → Int} (h : tA T X) {k : Int} (k0 : 0 ≤ k) (k1 : k < lT T) {i : Int} (i0 : 0 ≤ i) (i1 : i < T.2.2.2) (hi : i < tMt T k i) : zsum (fun i => zb (¬ tMt T k i < i)) i.toNat 0 ≤ 5 := by
  have hn := tA_n h
  have hni := nT_i h
  have ho := full_op (n := nT T) (r := tMt T k) (fun x x0 x1 => by
    have p := row_at h k0 k1 x0 (show x < T.2.2.2 by omega)
    have q := row_iv h k0 k1 x0 (show x < T.2.2.2 by omega)
    exact ⟨p.1, by omega, q.1, q.2⟩)
  unfold sOp at ho
  rw [zsum_congr (g := fun i => zb (¬ tMt T k i < i)) (fun x x0 x1 => zb_congr (by have q := (row_iv h k0 k1 x0 (show x < T.2.2.2 by omega)).1; omega)), show nT T = i.toNat + (nT T - i.toNat - 1 + 1) by omega, zsum_app, zsum_s, show (0 : Int) + (i.toNat : Int) = i by omega, zb_t (show ¬ tMt T k i < i by omega)] at ho
  have hz := zsum_bd (f := fun i => zb (¬ tMt T k i < i)) (b := 1) (j := nT T - i.toNat - 1) (k := i + 1) (fun x _ _ => by have := zb01 (¬ tMt T k x < x); omega)
  omega
theorem bA_in1 {m m' : zM} {t s : Int} (h : bA m t s) (ht : 0 ≤ m' 1 1 ∧ m' 1 1 ≤ 400) (f : ∀ a k : Int, ((a = 0 ∧ k < 11) ∨ (a = 1 ∧ k = 0) ∨ (a = 4 ∧ k = 0) ∨ (a = 37 ∧ k = 0) ∨ (39 ≤ a ∧ a < 95)) → m' a k = m a k) : bA m' t s := by
  obtain ⟨⟨h0, h1, h2, h3, h4, h5, h6, h7, h8, h9, h10⟩, k1, k4, kp, kt, ks, hts, htl⟩ := h
  exact ⟨⟨(f 0 0 (by omega)).trans h0, (f 0 1 (by omega)).trans h1, (f 0 2 (by omega)).trans h2, (f 0 3 (by omega)).trans h3, (f 0 4 (by omega)).trans h4, (f 0 5 (by omega)).trans h5, (f 0 6 (by omega)).trans h6, (f 0 7 (by omega)).trans h7, (f 0 8 (by omega)).trans h8, (f 0 9 (by omega)).trans h9, (f 0 10 (by omega)).trans h10⟩, (f 1 0 (by omega)).trans k1, (f 4 0 (by omega)).trans k4, (f 37 0 (by omega)).trans kp, ptT_in kt (fun a j q0 q1 => f a j (by omega)), ptT_in ks (fun a j q0 q1 => f a j (by omega)), hts, ht⟩
theorem cJ_loc1 {m m' : zM} {E : zE} {T : zT} {X : Int → Int} {t s a cap a2 cap2 ka kcap b bcap : Int} (h : cJ m E T X t s a cap a2 cap2 ka kcap b bcap) (ht1 : 0 ≤ m' 1 1 ∧ m' 1 1 ≤ 400) (f : ∀ x k : Int, ((x = 0 ∧ k < 11) ∨ (x = 1 ∧ k = 0) ∨ (x = 4 ∧ k = 0) ∨ (6 ≤ x ∧ x ≤ 32) ∨ (x = 33 ∧ k < 3) ∨ (x = 37 ∧ k = 0) ∨ (39 ≤ x ∧ x < 95) ∨ 121 ≤ x) → m' x k = m x k) : cJ m' E T X t s a cap a2 cap2 ka kcap b bcap := by
  obtain ⟨hA, hT, hW, hQ, hU, hD, hG, hE, hP, hR⟩ := h
  have ho := bE_pos hE
  have ht := hA.2.2.2.2.2.2.1
  refine ⟨bA_in1 hA ht1 (fun x k q => f x k (by omega)), bT_in hT hA.2.2.2.2.1 hP.1.1.1 (fun x k q0 q1 => f x k (by omega)), bW_in hW (fun x k q => f x k (by omega)), bQ_in hQ (fun x k q => f x k (by omega)), bU_in hU (fun k q => f 11 k (by omega)), bD_in hD (fun x k q => f x k (by omega)), ptG_in hG (fun k q => f 33 k (by omega)), hE, hP, ?_⟩
  rw [f 14 19 (by omega), f 8 5 (by omega)]
  exact hR
theorem fb_low (x : Int32) : (x &&& 255).toInt8 = x.toInt8 := by
  apply Int8.toBitVec_inj.1
  apply BitVec.eq_of_getLsbD_eq
  intro i hi
  have h2 : (255 : Int32).toBitVec.getLsbD i = true := by
    have : ∀ j : Fin 8, (255 : Int32).toBitVec.getLsbD j.val = true := by decide +kernel
    exact this ⟨i, hi⟩
  have h4 : (x &&& 255).toBitVec.getLsbD i = x.toBitVec.getLsbD i := by
    show (x.toBitVec &&& (255 : Int32).toBitVec).getLsbD i = _
    rw [BitVec.getLsbD_and, h2, Bool.and_true]
  have h3 : i < 32 := by omega
  first
    | (show (((x &&& 255).toBitVec).signExtend 8).getLsbD i = (x.toBitVec.signExtend 8).getLsbD i; rw [BitVec.getLsbD_signExtend, BitVec.getLsbD_signExtend, if_pos h3, if_pos h3, h4])
    | (show (((x &&& 255).toBitVec).setWidth 8).getLsbD i = (x.toBitVec.setWidth 8).getLsbD i; rw [BitVec.getLsbD_setWidth, BitVec.getLsbD_setWidth, h4])
    | (simp [hi, h3, h4]; done)
theorem kn_256 : ∀ j : Nat, j < 256 → kn (j : Int) = kn ((j : Int).bmod (2 ^ 8)) := by decide +kernel
theorem kn_by (a : Int) : kn (zand a 255) = kn (zi2b (zi2b a)) := by
  obtain ⟨j, hj, e⟩ := pk_andE (Int32.ofInt a) (m := 255) 8 (by decide)
  have hj : j < 256 := hj
  have e1 : zand a 255 = (j : Int) := by
    show (Int32.ofInt a &&& Int32.ofInt 255).toInt = _
    rw [show Int32.ofInt 255 = 255 from rfl, e]
    exact nI_toInt (by omega)
  have e2 : (Int32.ofInt a).toInt8 = (nI j).toInt8 := by rw [← e]; exact (fb_low _).symm
  have e3 : zi2b a = (j : Int).bmod (2 ^ 8) := by
    unfold zi2b
    rw [e2, Int8.toInt_toInt32, Int32.toInt_toInt8, nI_toInt (by omega)]
  have e4 : zi2b (zi2b a) = zi2b a := by
    unfold zi2b
    rw [Int32.ofInt_toInt, Int8.toInt8_toInt32]
  rw [e1, e4, e3]
  exact kn_256 j hj
theorem apN_is (m : zM) (v : Int) : apN m v 0 1 1 = m 1 1 + 4 ∧ (∀ x k : Int, x ≠ 2 → (x ≠ 1 ∨ k ≠ 1) → apN m v 0 x k = m x k) ∧ (∀ x : Int, (x < m 1 1 ∨ m 1 1 + 4 ≤ x) → apN m v 0 2 x = m 2 x) ∧ ∀ i : Int, 0 ≤ i → i < 4 → apN m v 0 2 (m 1 1 + i) = zand (zshr v (24 - 8 * i)) 255 := by
  have a1 : ∀ (M : zM) (s : Int), ap1 M v s 1 1 = M 1 1 + 1 := fun M s => zu_s
  have a2 : ∀ (M : zM) (s x k : Int), x ≠ 2 → (x ≠ 1 ∨ k ≠ 1) → ap1 M v s x k = M x k := fun M s x k q r => by
    unfold ap1
    by_cases e : x = 1
    · rw [e, zu_j (by omega), zu_a (by decide)]
    · rw [zu_a e, zu_a q]
  have a3 : ∀ (M : zM) (s x : Int), x ≠ M 1 1 → ap1 M v s 2 x = M 2 x := fun M s x q => by
    unfold ap1
    rw [zu_a (by decide), zu_j q]
  have a4 : ∀ (M : zM) (s : Int), ap1 M v s 2 (M 1 1) = zand (zshr v s) 255 := fun M s => by
    unfold ap1
    rw [zu_a (by decide), zu_s]
  have e : apN m v 0 = ap1 (ap1 (ap1 (ap1 m v 24) v 16) v 8) v 0 := if_pos rfl
  rw [e]
  have b1 := a1 m 24
  have b2 := a1 (ap1 m v 24) 16
  have b3 := a1 (ap1 (ap1 m v 24) v 16) 8
  have b4 := a1 (ap1 (ap1 (ap1 m v 24) v 16) v 8) 0
  refine ⟨by omega, fun x k q r => ?_, fun x q => ?_, fun i i0 i1 => ?_⟩
  · rw [a2 _ _ _ _ q r, a2 _ _ _ _ q r, a2 _ _ _ _ q r, a2 _ _ _ _ q r]
  · rw [a3 _ _ _ (by omega), a3 _ _ _ (by omega), a3 _ _ _ (by omega), a3 _ _ _ (by omega)]
  · have hi : i = 0 ∨ i = 1 ∨ i = 2 ∨ i = 3 := by omega
    rcases hi with rfl | rfl | rfl | rfl
    · rw [a3 _ _ _ (by omega), a3 _ _ _ (by omega), a3 _ _ _ (by omega), Int.add_zero, a4]
      rfl
    · rw [a3 _ _ _ (by omega), a3 _ _ _ (by omega), ← b1, a4]
      rfl
    · rw [a3 _ _ _ (by omega), show m 1 1 + 2 = ap1 (ap1 m v 24) v 16 1 1 by omega, a4]
      rfl
    · rw [show m 1 1 + 3 = ap1 (ap1 (ap1 m v 24) v 16) v 8 1 1 by omega, a4]
      rfl
theorem fd_all {m m1 m2 m3 m4 m5 : zM} {v1 v2 v3 v4 v5 x : Int} (h : m 1 1 + 20 ≤ 400) (a1 : m1 1 1 = m 1 1 + 4) (a2 : m2 1 1 = m1 1 1 + 4) (a3 : m3 1 1 = m2 1 1 + 4) (a4 : m4 1 1 = m3 1 1 + 4) (c1 : ∀ x : Int, (x < m 1 1 ∨ m 1 1 + 4 ≤ x) → m1 2 x = m 2 x) (c2 : ∀ x : Int, (x < m1 1 1 ∨ m1 1 1 + 4 ≤ x) → m2 2 x = m1 2 x) (c3 : ∀ x : Int, (x < m2 1 1 ∨ m2 1 1 + 4 ≤ x) → m3 2 x = m2 2 x) (c4 : ∀ x : Int, (x < m3 1 1 ∨ m3 1 1 + 4 ≤ x) → m4 2 x = m3 2 x) (c5 : ∀ x : Int, (x < m4 1 1 ∨ m4 1 1 + 4 ≤ x) → m5 2 x = m4 2 x) (d1 : ∀ i : Int, 0 ≤ i → i < 4 → m1 2 (m 1 1 + i) = zand (zshr v1 (24 - 8 * i)) 255) (d2 : ∀ i : Int, 0 ≤ i → i < 4 → m2 2 (m1 1 1 + i) = zand (zshr v2 (24 - 8 * i)) 255) (d3 : ∀ i : Int, 0 ≤ i → i < 4 → m3 2 (m2 1 1 + i) = zand (zshr v3 (24 - 8 * i)) 255) (d4 : ∀ i : Int, 0 ≤ i → i < 4 → m4 2 (m3 1 1 + i) = zand (zshr v4 (24 - 8 * i)) 255) (d5 : ∀ i : Int, 0 ≤ i → i < 4 → m5 2 (m4 1 1 + i) = zand (zshr v5 (24 - 8 * i)) 255) : kn (m5 2 x) = if m 1 1 + 20 ≤ 400 ∧ m 1 1 ≤ x ∧ x < m 1 1 + 20 then kn (fd v1 v2 v3 v4 v5 (x - m 1 1)) else kn (m 2 x) := by
  have hq : (x < m 1 1 ∨ m 1 1 + 20 ≤ x) ∨ (m 1 1 ≤ x ∧ x < m 1 1 + 4) ∨ (m 1 1 + 4 ≤ x ∧ x < m 1 1 + 8) ∨ (m 1 1 + 8 ≤ x ∧ x < m 1 1 + 12) ∨ (m 1 1 + 12 ≤ x ∧ x < m 1 1 + 16) ∨ (m 1 1 + 16 ≤ x ∧ x < m 1 1 + 20) := by omega
  rcases hq with q | q | q | q | q | q
  · rw [if_neg (by omega), c5 x (by omega), c4 x (by omega), c3 x (by omega), c2 x (by omega), c1 x (by omega)]
  · rw [if_pos (by omega), c5 x (by omega), c4 x (by omega), c3 x (by omega), c2 x (by omega), fd1 (by omega)]
    have := d1 (x - m 1 1) (by omega) (by omega)
    rw [show m 1 1 + (x - m 1 1) = x by omega] at this
    rw [this, kn_by]
    rfl
  · rw [if_pos (by omega), c5 x (by omega), c4 x (by omega), c3 x (by omega), fd2 (by omega)]
    have := d2 (x - m 1 1 - 4) (by omega) (by omega)
    rw [show m1 1 1 + (x - m 1 1 - 4) = x by omega] at this
    rw [this, kn_by]
    rfl
  · rw [if_pos (by omega), c5 x (by omega), c4 x (by omega), fd3 (by omega)]
    have := d3 (x - m 1 1 - 8) (by omega) (by omega)
    rw [show m2 1 1 + (x - m 1 1 - 8) = x by omega] at this
    rw [this, kn_by]
    rfl
  · rw [if_pos (by omega), c5 x (by omega), fd4 (by omega)]
    have := d4 (x - m 1 1 - 12) (by omega) (by omega)
    rw [show m3 1 1 + (x - m 1 1 - 12) = x by omega] at this
    rw [this, kn_by]
    rfl
  · rw [if_pos (by omega), fd5 (by omega)]
    have := d5 (x - m 1 1 - 16) (by omega) (by omega)
    rw [show m4 1 1 + (x - m 1 1 - 16) = x by omega] at this
    rw [this, kn_by]
    rfl
theorem p_core (d : Nat) {E : zE} {m : zM} (T : zT) (X : Int → Int) (t s a cap a2 cap2 ka kcap b bcap : Int) (hJ : cJ m E T X t s a cap a2 cap2 ka kcap b bcap) (dd w : Int) : ∃ E1 : zE, (E.2.1 ≤ E1.2.1 ∧ E.2.2 ≤ E1.2.2) ∧ EB E1 ∧ zR zX11_core (d + 16) [zP 0, zI dd, zI w] m E E1 (fun r m' => r = some (zI (aCore T dd w).2) ∧ cQ m m' E1 T X (aCore T dd w).1) := by
  have htt := cJ_t hJ
  have hln := (tA_l hJ.2.2.2.2.2.2.2.2.1).1
  have hni := nT_i hJ.2.2.2.2.2.2.2.2.1
  have hw3 := (tA_w hJ.2.2.2.2.2.2.2.2.1).2.2.1
  by_cases hc0 : (0 ≤ w ∧ w ≤ 2) ∧ 0 ≤ dd
  · have le := dE_le E T cap kcap bcap
    refine ⟨dE E T cap kcap bcap, le, EB_d hJ, ?_⟩
    refine zR_go [zP 0, zI dd, zI w, zN, zN] (by decide +kernel) (Nat.le_of_ble_eq_true rfl) rfl rfl ?_
    refine z_iload_n dX11_core_0 rfl ?_
    refine z_if_lt (tgt := 9) dX11_core_1 rfl (fun h => absurd h (by omega)) (fun h1 => ?_)
    refine z_iload_n dX11_core_4 rfl ?_
    refine z_iconst dX11_core_5 (by decide) ?_
    refine z_icmp_le (tgt := 15) dX11_core_6 rfl (fun h6 => ?_) (fun h => absurd (by omega) h)
    refine z_aload_n dX11_core_15 rfl ?_
    refine z_iload_n dX11_core_16 rfl ?_
    refine z_callV mlX11_325 dX11_core_17 (sx_0 hJ.2.2.2.2.2.2.2.1.1) (av := [_]) rfl rfl (Nat.le_of_ble_eq_true rfl) (c_hDx _ T X _ _ _ _ _ _ _ _ _ _ hJ dd (by omega)) (by first | exact Nat.le_refl _ | exact le.1) (by first | exact Nat.le_refl _ | exact le.2) (Nat.le_refl _) (Nat.le_refl _) ?_
    rintro _ m1 ⟨rfl, ka1, kc1, b1, bc1, j1, h9, q1⟩
    refine z_ifz_ne (tgt := 29) dX11_core_20 rfl (fun h20 => ?_) (fun h20 => ?_)
    · refine z_aload_n dX11_core_29 rfl ?_
      refine z_iload_n dX11_core_30 rfl ?_
      refine z_callV mlX11_334 dX11_core_31 (sx_0 j1.2.2.2.2.2.2.2.1.1) (av := [_]) rfl rfl (Nat.le_of_ble_eq_true rfl) (c_graphOf _ T X _ _ _ _ _ _ _ _ _ _ j1 h9 dd (by omega) (by omega)) (Nat.le_refl _) (Nat.le_refl _) (by first | exact Nat.le_refl _ | exact le.1) (by first | exact Nat.le_refl _ | exact le.2) ?_
      rintro _ m2 ⟨rfl, j2, h9, q2, hg, hon⟩
      refine z_ast 3 dX11_core_34 rfl (Nat.le_of_ble_eq_true rfl) ?_
      refine z_aload_n dX11_core_35 rfl ?_
      refine z_aload_n dX11_core_36 rfl ?_
      refine z_gP 9 rfl (r := t) flX11_71 dX11_core_37 (sx_0 j2.2.2.2.2.2.2.2.1.1) rfl (j2.1.1.2.2.2.2.2.2.2.2.2.1) (by omega) ?_
      try dsimp only [zs0, zsI, zsP, zsN, zsJ, zsS, zst2, Nat.reduceAdd]
      refine z_callV mlX11_363 dX11_core_40 (sx_T j2.2.2.2.2.2.2.2.1.1 (cJ_t j2)).1 (av := _) rfl rfl (Nat.le_of_ble_eq_true rfl) (c_outerPoints _ t (cJ_t0 j2) (sx_T j2.2.2.2.2.2.2.2.1.1 (cJ_t j2)) (j2.1.2.2.2.2.1) T.1 (wfD_of (tA_w j2.2.2.2.2.2.2.2.2.1)) (j2.2.1.1)) (Nat.le_refl _) (Nat.le_refl _) (by first | exact Nat.le_refl _ | exact le.1) (by first | exact Nat.le_refl _ | exact le.2) ?_
      rintro _ _ ⟨rfl, rfl⟩
      refine z_aload_n dX11_core_43 rfl ?_
      refine z_gP 9 rfl (r := t) flX11_71 dX11_core_44 (sx_0 j2.2.2.2.2.2.2.2.1.1) rfl (j2.1.1.2.2.2.2.2.2.2.2.2.1) (by omega) ?_
      refine z_callV mlX11_303 dX11_core_47 (sx_T j2.2.2.2.2.2.2.2.1.1 (cJ_t j2)).1 (av := _) rfl rfl (Nat.le_of_ble_eq_true rfl) (c_allPoints _ t (cJ_t0 j2) (sx_T j2.2.2.2.2.2.2.2.1.1 (cJ_t j2)) (j2.1.2.2.2.2.1) T.1 (wfD_of (tA_w j2.2.2.2.2.2.2.2.2.1)) (j2.2.1.1)) (Nat.le_refl _) (Nat.le_refl _) (by first | exact Nat.le_refl _ | exact le.1) (by first | exact Nat.le_refl _ | exact le.2) ?_
      rintro _ _ ⟨rfl, rfl⟩
      refine z_callV mlX11_338 dX11_core_50 (sx_G33 j2.2.2.2.2.2.2.2.1.1).1 (av := [_, _]) rfl rfl (Nat.le_of_ble_eq_true rfl) (c_reach _ 33 (by omega) (sx_G33 j2.2.2.2.2.2.2.2.1.1) j2.2.2.2.2.2.2.1 _ (gNb_lg hg) hg.2.2 (tOut T.1) (tAll T.1) (tOut_lt (wfD_of (tA_w j2.2.2.2.2.2.2.2.2.1))) (tAll_lt (tA_w j2.2.2.2.2.2.2.2.2.1))) (Nat.le_refl _) (Nat.le_refl _) (by first | exact Nat.le_refl _ | exact le.1) (by first | exact Nat.le_refl _ | exact le.2) ?_
      rintro _ _ ⟨rfl, rfl⟩
      refine z_istore dX11_core_53 (Nat.le_of_ble_eq_true rfl) ?_
      refine z_iload_n dX11_core_55 rfl ?_
      try dsimp only [zs0, zsI, zsP, zsN, zsJ, zsS, zst2, Nat.reduceAdd]
      refine z_if_ne (tgt := 69) dX11_core_56 rfl (fun h56 => ?_) (fun h56 => ?_)
      · refine z_aload_n dX11_core_69 rfl ?_
        refine z_iload_n dX11_core_70 rfl ?_
        refine z_iconst dX11_core_71 (by decide) ?_
        refine z_icmp_ne (tgt := 84) dX11_core_72 rfl (fun h72 => ?_) (fun h72 => ?_)
        · refine z_iload dX11_core_84 rfl ?_
          refine z_callV mlX11_111 dX11_core_86 (sx_0 j2.2.2.2.2.2.2.2.1.1) (av := [_]) rfl rfl (Nat.le_of_ble_eq_true rfl) (c_answer _ (sx_0 j2.2.2.2.2.2.2.2.1.1) _) (Nat.le_refl _) (Nat.le_refl _) (by first | exact Nat.le_refl _ | exact le.1) (by first | exact Nat.le_refl _ | exact le.2) ?_
          rintro _ _ ⟨rfl, rfl⟩
          refine z_iret dX11_core_89 rfl rfl ?_
          rw [core_is hJ.2.2.2.2.2.2.2.2.1 hc0.1 h20 hon]
          rw [if_neg (by omega), if_neg (by omega)]
          exact ⟨rfl, cQ_st j2 (qFr_tr q1 q2) _⟩
        · refine z_aload_n dX11_core_75 rfl ?_
          refine z_iload dX11_core_76 rfl ?_
          refine z_callV mlX11_371 dX11_core_78 (sx_G33 j2.2.2.2.2.2.2.2.1.1).1 (av := [_]) rfl rfl (Nat.le_of_ble_eq_true rfl) (c_within _ 33 (by omega) (sx_G33 j2.2.2.2.2.2.2.2.1.1) j2.2.2.2.2.2.2.1 _ _ _ hg.1 (gRs (gNb (gFr (tCo T dd)) (gTo (tCo T dd)) (tH T)) (tAll T.1) (tOut T.1)) (gRs_is (N := gNb (gFr (tCo T dd)) (gTo (tCo T dd)) (tH T)) (A := tOut T.1) hon.1).1) (Nat.le_refl _) (Nat.le_refl _) (by first | exact Nat.le_refl _ | exact le.1) (by first | exact Nat.le_refl _ | exact le.2) ?_
          rintro _ _ ⟨rfl, rfl⟩
          refine z_goto (tgt := 86) dX11_core_81 rfl ?_
          refine z_callV mlX11_111 dX11_core_86 (sx_0 j2.2.2.2.2.2.2.2.1.1) (av := [_]) rfl rfl (Nat.le_of_ble_eq_true rfl) (c_answer _ (sx_0 j2.2.2.2.2.2.2.2.1.1) _) (Nat.le_refl _) (Nat.le_refl _) (by first | exact Nat.le_refl _ | exact le.1) (by first | exact Nat.le_refl _ | exact le.2) ?_
          rintro _ _ ⟨rfl, rfl⟩
          refine z_iret dX11_core_89 rfl rfl ?_
          rw [core_is hJ.2.2.2.2.2.2.2.2.1 hc0.1 h20 hon]
          rw [if_neg (by omega), if_pos (by omega)]
          exact ⟨rfl, cQ_st j2 (qFr_tr q1 q2) _⟩
      · refine z_aload_n dX11_core_59 rfl ?_
        refine z_iload dX11_core_60 rfl ?_
        refine z_callS mlX11_366 dX11_core_62 (av := [_]) rfl rfl (Nat.le_of_ble_eq_true rfl) (c_bitCount _ (gRs (gNb (gFr (tCo T dd)) (gTo (tCo T dd)) (tH T)) (tAll T.1) (tOut T.1)) (by have := (gRs_is (N := gNb (gFr (tCo T dd)) (gTo (tCo T dd)) (tH T)) (A := tOut T.1) hon.1).1; omega)) (Nat.le_refl _) (Nat.le_refl _) (by first | exact Nat.le_refl _ | exact le.1) (by first | exact Nat.le_refl _ | exact le.2) ?_
        rintro _ _ ⟨rfl, rfl⟩
        refine z_callV mlX11_111 dX11_core_65 (sx_0 j2.2.2.2.2.2.2.2.1.1) (av := [_]) rfl rfl (Nat.le_of_ble_eq_true rfl) (c_answer _ (sx_0 j2.2.2.2.2.2.2.2.1.1) _) (Nat.le_refl _) (Nat.le_refl _) (by first | exact Nat.le_refl _ | exact le.1) (by first | exact Nat.le_refl _ | exact le.2) ?_
        rintro _ _ ⟨rfl, rfl⟩
        refine z_iret dX11_core_68 rfl rfl ?_
        rw [core_is hJ.2.2.2.2.2.2.2.2.1 hc0.1 h20 hon]
        rw [if_pos (by omega)]
        exact ⟨rfl, cQ_st j2 (qFr_tr q1 q2) _⟩
    · refine z_aload_n dX11_core_23 rfl ?_
      refine z_iconst dX11_core_24 (by decide) ?_
      refine z_callV mlX11_93 dX11_core_25 (sx_0 j1.2.2.2.2.2.2.2.1.1) (av := [_]) rfl rfl (Nat.le_of_ble_eq_true rfl) (c_refuse _ (sx_0 j1.2.2.2.2.2.2.2.1.1) _) (Nat.le_refl _) (Nat.le_refl _) (by first | exact Nat.le_refl _ | exact le.1) (by first | exact Nat.le_refl _ | exact le.2) ?_
      rintro _ _ ⟨rfl, rfl⟩
      refine z_iret dX11_core_28 rfl rfl ?_
      rw [show aCore T dd w = (2, -1) from by unfold aCore; rw [if_neg (by omega), if_pos h20]]
      exact ⟨rfl, cQ_st j1 q1 _⟩
  refine ⟨E, ⟨Nat.le_refl _, Nat.le_refl _⟩, EB_e hJ, ?_⟩
  refine zR_go [zP 0, zI dd, zI w, zN, zN] (by decide +kernel) (Nat.le_of_ble_eq_true rfl) rfl rfl ?_
  refine z_iload_n dX11_core_0 rfl ?_
  refine z_if_lt (tgt := 9) dX11_core_1 rfl (fun h1 => ?_) (fun h1 => ?_)
  · refine z_aload_n dX11_core_9 rfl ?_
    refine z_iconst dX11_core_10 (by decide) ?_
    refine z_callV mlX11_93 dX11_core_11 (sx_0 hJ.2.2.2.2.2.2.2.1.1) (av := [_]) rfl rfl (Nat.le_of_ble_eq_true rfl) (c_refuse _ (sx_0 hJ.2.2.2.2.2.2.2.1.1) _) (Nat.le_refl _) (Nat.le_refl _) (by first | exact Nat.le_refl _ | exact le.1) (by first | exact Nat.le_refl _ | exact le.2) ?_
    rintro _ _ ⟨rfl, rfl⟩
    refine z_iret dX11_core_14 rfl rfl ?_
    rw [show aCore T dd w = (1, -1) from by unfold aCore; rw [if_pos (by omega)]]
    exact ⟨rfl, cQ_st hJ qFr_rf _⟩
  · refine z_iload_n dX11_core_4 rfl ?_
    refine z_iconst dX11_core_5 (by decide) ?_
    refine z_icmp_le (tgt := 15) dX11_core_6 rfl (fun h6 => ?_) (fun h6 => ?_)
    · refine z_aload_n dX11_core_15 rfl ?_
      refine z_iload_n dX11_core_16 rfl ?_
      refine z_callV mlX11_325 dX11_core_17 (sx_0 hJ.2.2.2.2.2.2.2.1.1) (av := [_]) rfl rfl (Nat.le_of_ble_eq_true rfl) (c_hDn _ T dd (by omega)) (Nat.le_refl _) (Nat.le_refl _) (by first | exact Nat.le_refl _ | exact le.1) (by first | exact Nat.le_refl _ | exact le.2) ?_
      rintro _ _ ⟨rfl, rfl⟩
      refine z_ifz_ne (tgt := 29) dX11_core_20 rfl (fun h => absurd h (by omega)) (fun h20 => ?_)
      refine z_aload_n dX11_core_23 rfl ?_
      refine z_iconst dX11_core_24 (by decide) ?_
      refine z_callV mlX11_93 dX11_core_25 (sx_0 hJ.2.2.2.2.2.2.2.1.1) (av := [_]) rfl rfl (Nat.le_of_ble_eq_true rfl) (c_refuse _ (sx_0 hJ.2.2.2.2.2.2.2.1.1) _) (Nat.le_refl _) (Nat.le_refl _) (by first | exact Nat.le_refl _ | exact le.1) (by first | exact Nat.le_refl _ | exact le.2) ?_
      rintro _ _ ⟨rfl, rfl⟩
      refine z_iret dX11_core_28 rfl rfl ?_
      rw [show aCore T dd w = (2, -1) from by unfold aCore; rw [if_neg (by omega), if_pos (by omega)]]
      exact ⟨rfl, cQ_st hJ qFr_rf _⟩
    · refine z_aload_n dX11_core_9 rfl ?_
      refine z_iconst dX11_core_10 (by decide) ?_
      refine z_callV mlX11_93 dX11_core_11 (sx_0 hJ.2.2.2.2.2.2.2.1.1) (av := [_]) rfl rfl (Nat.le_of_ble_eq_true rfl) (c_refuse _ (sx_0 hJ.2.2.2.2.2.2.2.1.1) _) (Nat.le_refl _) (Nat.le_refl _) (by first | exact Nat.le_refl _ | exact le.1) (by first | exact Nat.le_refl _ | exact le.2) ?_
      rintro _ _ ⟨rfl, rfl⟩
      refine z_iret dX11_core_14 rfl rfl ?_
      rw [show aCore T dd w = (1, -1) from by unfold aCore; rw [if_pos (by omega)]]
      exact ⟨rfl, cQ_st hJ qFr_rf _⟩

theorem l_cprint (d : Nat) {E : zE} {m : zM} {P : Option zV → zM → Prop} {E0 : zE} (T : zT) (X : Int → Int) (t s a cap a2 cap2 ka kcap b bcap : Int) (hA0 : tA T X) (dd : Int) (d0 : 0 ≤ dd) (d1 : dd < ((tD T).length : Int)) : ∀ (j : Nat) (k : Int) (m1 : zM), (0 ≤ k) → (k + j = ((tH T : Nat) : Int)) → (cJ m1 E T X t s a cap a2 cap2 ka kcap b bcap) → (m1 14 19 = 1) → (pFr m m1) → (cTx m1 (sCat (fun k => pLn T.1 (tCo T dd k)) k.toNat 0)) → (∀ m2, cJ m2 E T X t s a cap a2 cap2 ka kcap b bcap → pFr m m2 → cTx m2 (tTxt T dd) → P (some (zI ((tTxt T dd).length : Int))) (zu m2 0 11 0)) → zA zX11_print (d + 3) E0 E P 28 [zP 0, zI dd, zP 14, zI k] [] m1 E := by
  intro j
  induction j with
  | zero =>
    intro k m1 h0 hk hj h9 hf hx hP
    have hth := tH_i hA0
    have hln := (tA_l hA0).1
    have htt := cJ_t hj
    refine z_iload_n dX11_print_28 rfl ?_
    refine z_aload_n dX11_print_29 rfl ?_
    refine z_gP 9 rfl (r := t) flX11_71 dX11_print_30 (sx_0 hj.2.2.2.2.2.2.2.1.1) rfl (hj.1.1.2.2.2.2.2.2.2.2.2.1) (by omega) ?_
    refine z_gIv 14 rfl flX11_108 dX11_print_33 (sx_T hj.2.2.2.2.2.2.2.1.1 (cJ_t hj)).1 rfl (hj.2.1.2.1.1) ?_
    refine z_iconst dX11_print_36 (by decide) ?_
    refine z_div dX11_print_37 (by omega) (by omega) ?_
    rw [hth.1]
    refine z_icmp_ge (tgt := 64) dX11_print_38 rfl (fun h38 => ?_) (fun h => absurd (by omega) h)
    refine z_aload_n dX11_print_64 rfl ?_
    refine z_aload_n dX11_print_65 rfl ?_
    refine z_gP 8 rfl (r := 37) flX11_64 dX11_print_66 (sx_0 hj.2.2.2.2.2.2.2.1.1) rfl (hj.1.1.2.2.2.2.2.2.2.2.1) (by omega) ?_
    refine z_gIv 1 rfl flX11_354 dX11_print_69 (sx_P hj.2.2.2.2.2.2.2.1.1).1 rfl hx.1 ?_
    refine z_callV mlX11_111 dX11_print_72 (sx_0 hj.2.2.2.2.2.2.2.1.1) (av := [_]) rfl rfl (Nat.le_of_ble_eq_true rfl) (c_answer _ (sx_0 hj.2.2.2.2.2.2.2.1.1) _) (Nat.le_refl _) (Nat.le_refl _) (Nat.le_refl _) (Nat.le_refl _) ?_
    rintro _ _ ⟨rfl, rfl⟩
    refine z_iret dX11_print_75 rfl rfl ?_
    rw [show k.toNat = tH T by omega] at hx ⊢
    exact hP _ hj hf hx
  | succ j ih =>
    intro k m1 h0 hk hj h9 hf hx hP
    have hth := tH_i hA0
    have hln := (tA_l hA0).1
    have htt := cJ_t hj
    have hlb := sCat_lenb (g := (fun k => pLn T.1 (tCo T dd k))) (b := 8) (s := k.toNat) (k := 0) (fun j => pLn_len _ _)
    refine z_iload_n dX11_print_28 rfl ?_
    refine z_aload_n dX11_print_29 rfl ?_
    refine z_gP 9 rfl (r := t) flX11_71 dX11_print_30 (sx_0 hj.2.2.2.2.2.2.2.1.1) rfl (hj.1.1.2.2.2.2.2.2.2.2.2.1) (by omega) ?_
    refine z_gIv 14 rfl flX11_108 dX11_print_33 (sx_T hj.2.2.2.2.2.2.2.1.1 (cJ_t hj)).1 rfl (hj.2.1.2.1.1) ?_
    refine z_iconst dX11_print_36 (by decide) ?_
    refine z_div dX11_print_37 (by omega) (by omega) ?_
    rw [hth.1]
    refine z_icmp_ge (tgt := 64) dX11_print_38 rfl (fun h => absurd h (by omega)) (fun h38 => ?_)
    refine z_aload_n dX11_print_41 rfl ?_
    refine z_gP 8 rfl (r := 37) flX11_64 dX11_print_42 (sx_0 hj.2.2.2.2.2.2.2.1.1) rfl (hj.1.1.2.2.2.2.2.2.2.2.1) (by omega) ?_
    refine z_aload_n dX11_print_45 rfl ?_
    refine z_iload_n dX11_print_46 rfl ?_
    refine z_iload_n dX11_print_47 rfl ?_
    refine z_callV mlX11_331 dX11_print_48 (sx_14 hj.2.2.2.2.2.2.2.1.1) (av := [_, _]) rfl rfl (Nat.le_of_ble_eq_true rfl) (x_codeAt _ T X t s a cap a2 cap2 ka kcap b bcap hj h9 dd d0 d1 k h0 (by omega)) (Nat.le_refl _) (Nat.le_refl _) (Nat.le_refl _) (Nat.le_refl _) ?_
    rintro _ _ ⟨rfl, rfl⟩
    refine z_aload_n dX11_print_51 rfl ?_
    refine z_gP 9 rfl (r := t) flX11_71 dX11_print_52 (sx_0 hj.2.2.2.2.2.2.2.1.1) rfl (hj.1.1.2.2.2.2.2.2.2.2.2.1) (by omega) ?_
    refine z_callV mlX11_350 dX11_print_55 (sx_P hj.2.2.2.2.2.2.2.1.1).1 (av := [_, _]) rfl rfl (Nat.le_of_ble_eq_true rfl) (c_putLine _ 37 (by omega) (sx_P hj.2.2.2.2.2.2.2.1.1) hj.1.2.2.2.1 t (by have := cJ_t hj; omega) (sx_T hj.2.2.2.2.2.2.2.1.1 (cJ_t hj)) hj.1.2.2.2.2.1 T.1 (wfD_of (tA_w hA0)) hj.2.1.1 (tCo T dd k) ((co_row hj h9 d0 d1).1.1 k h0 (by omega)) (by rw [hx.1]; omega) (by rw [hx.1]; omega)) (Nat.le_refl _) (Nat.le_refl _) (Nat.le_refl _) (Nat.le_refl _) ?_
    rintro _ m2 ⟨rfl, ho, hp⟩
    obtain ⟨hj2, hf2, h92, _⟩ := cJ_p hj ho.2.2.2
    refine z_inc dX11_print_58 rfl (by omega) ?_
    refine z_goto (tgt := 28) dX11_print_61 rfl ?_
    try dsimp only [zs0, zsI, zsP, zsN, zsJ, zsS, zst2, Nat.reduceAdd]
    refine zA_wk [_, _, _, _] (by exact ⟨Or.inr rfl, Or.inr rfl, Or.inr rfl, Or.inr rfl, trivial⟩) ?_
    exact ih (k + 1) m2 (by omega) (by omega) hj2 (h92.trans h9) (pFr_tr hf hf2) (by rw [show (k + 1).toNat = k.toNat + 1 by omega, sCat_snoc, show (0 : Int) + (k.toNat : Int) = k by omega]; exact cTx_ap hx ho (by have := pLn_len T.1 (tCo T dd k); omega)) hP

theorem p_print (d : Nat) {E : zE} {m : zM} (T : zT) (X : Int → Int) (t s a cap a2 cap2 ka kcap b bcap : Int) (hJ : cJ m E T X t s a cap a2 cap2 ka kcap b bcap) (dd : Int) (Lt : List Int) (hLt : cTx m Lt) : ∃ E1 : zE, (E.2.1 ≤ E1.2.1 ∧ E.2.2 ≤ E1.2.2) ∧ EB E1 ∧ zR zX11_print (d + 16) [zP 0, zI dd] m E E1 (fun r m' => r = some (zI (aPrint T dd).2) ∧ cPq m m' E1 T X (aPrint T dd).1 (if (aPrint T dd).1 = 0 then tTxt T dd else Lt)) := by
  have htt := cJ_t hJ
  have hln := (tA_l hJ.2.2.2.2.2.2.2.2.1).1
  have hni := nT_i hJ.2.2.2.2.2.2.2.2.1
  by_cases hc0 : 0 ≤ dd
  · have le := dE_le E T cap kcap bcap
    refine ⟨dE E T cap kcap bcap, le, EB_d hJ, ?_⟩
    refine zR_go [zP 0, zI dd, zN, zN] (by decide +kernel) (Nat.le_of_ble_eq_true rfl) rfl rfl ?_
    refine z_aload_n dX11_print_0 rfl ?_
    refine z_iload_n dX11_print_1 rfl ?_
    refine z_callV mlX11_325 dX11_print_2 (sx_0 hJ.2.2.2.2.2.2.2.1.1) (av := [_]) rfl rfl (Nat.le_of_ble_eq_true rfl) (c_hDx _ T X _ _ _ _ _ _ _ _ _ _ hJ dd (by omega)) (by first | exact Nat.le_refl _ | exact le.1) (by first | exact Nat.le_refl _ | exact le.2) (Nat.le_refl _) (Nat.le_refl _) ?_
    rintro _ m1 ⟨rfl, ka1, kc1, b1, bc1, j1, h9, q1⟩
    refine z_ifz_ne (tgt := 14) dX11_print_5 rfl (fun h5 => ?_) (fun h5 => ?_)
    · refine z_aload_n dX11_print_14 rfl ?_
      refine z_gP 8 rfl (r := 37) flX11_64 dX11_print_15 (sx_0 j1.2.2.2.2.2.2.2.1.1) rfl (j1.1.1.2.2.2.2.2.2.2.2.1) (by omega) ?_
      refine z_callV mlX11_347 dX11_print_18 (sx_P j1.2.2.2.2.2.2.2.1.1).1 (av := _) rfl rfl (Nat.le_of_ble_eq_true rfl) (c_pclear _ 37 (by omega) (sx_P j1.2.2.2.2.2.2.2.1.1) j1.1.2.2.2.1) (Nat.le_refl _) (Nat.le_refl _) (by first | exact Nat.le_refl _ | exact le.1) (by first | exact Nat.le_refl _ | exact le.2) ?_
      rintro _ m2 ⟨rfl, f2, e2, _⟩
      obtain ⟨j2, p2, h9_, h5_⟩ := cJ_p j1 f2
      refine z_aload_n dX11_print_21 rfl ?_
      refine z_callV mlX11_142 dX11_print_22 (sx_0 j2.2.2.2.2.2.2.2.1.1) (av := _) rfl rfl (Nat.le_of_ble_eq_true rfl) (c_kD1 _ T X _ _ _ _ _ _ _ _ _ _ j2 (h9_.trans h9)) (Nat.le_refl _) (Nat.le_refl _) (by first | exact Nat.le_refl _ | exact le.1) (by first | exact Nat.le_refl _ | exact le.2) ?_
      rintro _ _ ⟨rfl, rfl⟩
      refine z_ast 2 dX11_print_25 rfl (Nat.le_of_ble_eq_true rfl) ?_
      refine z_iconst dX11_print_26 (by decide) ?_
      refine z_ist 3 dX11_print_27 rfl (Nat.le_of_ble_eq_true rfl) ?_
      try dsimp only [zs0, zsI, zsP, zsN, zsJ, zsS, zst2, Nat.reduceAdd]
      refine l_cprint (d + 13) T X _ _ _ _ _ _ _ _ _ _ hJ.2.2.2.2.2.2.2.2.1 dd (by omega) (by omega) (tH T) 0 m2 (by omega) (by omega) j2 (h9_.trans h9) (pFr_tr (pFr_q q1) p2) (cTx_0 e2) (fun m3 j3 p3 x3 => ?_)
      rw [show aPrint T dd = (0, ((tTxt T dd).length : Int)) from by unfold aPrint; rw [if_neg (not_not_intro h5)]]
      exact ⟨rfl, cPq_st j3 p3 x3 _⟩
    · refine z_aload_n dX11_print_8 rfl ?_
      refine z_iconst dX11_print_9 (by decide) ?_
      refine z_callV mlX11_93 dX11_print_10 (sx_0 j1.2.2.2.2.2.2.2.1.1) (av := [_]) rfl rfl (Nat.le_of_ble_eq_true rfl) (c_refuse _ (sx_0 j1.2.2.2.2.2.2.2.1.1) _) (Nat.le_refl _) (Nat.le_refl _) (by first | exact Nat.le_refl _ | exact le.1) (by first | exact Nat.le_refl _ | exact le.2) ?_
      rintro _ _ ⟨rfl, rfl⟩
      refine z_iret dX11_print_13 rfl rfl ?_
      rw [show aPrint T dd = (2, -1) from by unfold aPrint; rw [if_pos h5]]
      exact ⟨rfl, cPq_st j1 (pFr_q q1) (cTx_q hLt q1) _⟩
  refine ⟨E, ⟨Nat.le_refl _, Nat.le_refl _⟩, EB_e hJ, ?_⟩
  refine zR_go [zP 0, zI dd, zN, zN] (by decide +kernel) (Nat.le_of_ble_eq_true rfl) rfl rfl ?_
  refine z_aload_n dX11_print_0 rfl ?_
  refine z_iload_n dX11_print_1 rfl ?_
  refine z_callV mlX11_325 dX11_print_2 (sx_0 hJ.2.2.2.2.2.2.2.1.1) (av := [_]) rfl rfl (Nat.le_of_ble_eq_true rfl) (c_hDn _ T dd (by omega)) (Nat.le_refl _) (Nat.le_refl _) (by first | exact Nat.le_refl _ | exact le.1) (by first | exact Nat.le_refl _ | exact le.2) ?_
  rintro _ _ ⟨rfl, rfl⟩
  refine z_ifz_ne (tgt := 14) dX11_print_5 rfl (fun h => absurd h (by omega)) (fun h5 => ?_)
  refine z_aload_n dX11_print_8 rfl ?_
  refine z_iconst dX11_print_9 (by decide) ?_
  refine z_callV mlX11_93 dX11_print_10 (sx_0 hJ.2.2.2.2.2.2.2.1.1) (av := [_]) rfl rfl (Nat.le_of_ble_eq_true rfl) (c_refuse _ (sx_0 hJ.2.2.2.2.2.2.2.1.1) _) (Nat.le_refl _) (Nat.le_refl _) (by first | exact Nat.le_refl _ | exact le.1) (by first | exact Nat.le_refl _ | exact le.2) ?_
  rintro _ _ ⟨rfl, rfl⟩
  refine z_iret dX11_print_13 rfl rfl ?_
  rw [show aPrint T dd = (2, -1) from by unfold aPrint; rw [if_pos (by omega)]]
  exact ⟨rfl, cPq_st hJ (pFr_q qFr_rf) (cTx_q hLt qFr_rf) _⟩

theorem l_cpp (d : Nat) {E : zE} {m : zM} {P : Option zV → zM → Prop} {E0 : zE} (T : zT) (X : Int → Int) (t s a cap a2 cap2 ka kcap b bcap : Int) (hA0 : tA T X) (k : Int) (k0 : 0 ≤ k) (k1 : k < lT T) : ∀ (j : Nat) (i : Int) (m1 : zM), (0 ≤ i) → (i + j = T.2.2.2) → (cJ m1 E T X t s a cap a2 cap2 ka kcap b bcap) → (m1 8 5 = 1) → (pFr m m1) → (cTx m1 (sCat (pPr (tMt T k)) i.toNat 0)) → (∀ m2, cJ m2 E T X t s a cap a2 cap2 ka kcap b bcap → pFr m m2 → cTx m2 (tTxtP T k) → P (some (zI ((tTxtP T k).length : Int))) (zu m2 0 11 0)) → zA zX11_printPairs (d + 3) E0 E P 23 [zP 0, zI k, zI i, zN] [] m1 E := by
  intro j
  induction j with
  | zero =>
    intro i m1 h0 hi hj h5 hf hx hP
    have hln := (tA_l hA0).1
    have hni := nT_i hA0
    have htt := cJ_t hj
    refine z_iload_n dX11_printPairs_23 rfl ?_
    refine z_aload_n dX11_printPairs_24 rfl ?_
    refine z_gP 9 rfl (r := t) flX11_71 dX11_printPairs_25 (sx_0 hj.2.2.2.2.2.2.2.1.1) rfl (hj.1.1.2.2.2.2.2.2.2.2.2.1) (by omega) ?_
    refine z_gIv 14 rfl flX11_108 dX11_printPairs_28 (sx_T hj.2.2.2.2.2.2.2.1.1 (cJ_t hj)).1 rfl (hj.2.1.2.1.1) ?_
    refine z_icmp_ge (tgt := 64) dX11_printPairs_31 rfl (fun h31 => ?_) (fun h => absurd (by omega) h)
    refine z_aload_n dX11_printPairs_64 rfl ?_
    refine z_aload_n dX11_printPairs_65 rfl ?_
    refine z_gP 8 rfl (r := 37) flX11_64 dX11_printPairs_66 (sx_0 hj.2.2.2.2.2.2.2.1.1) rfl (hj.1.1.2.2.2.2.2.2.2.2.1) (by omega) ?_
    refine z_gIv 1 rfl flX11_354 dX11_printPairs_69 (sx_P hj.2.2.2.2.2.2.2.1.1).1 rfl hx.1 ?_
    refine z_callV mlX11_111 dX11_printPairs_72 (sx_0 hj.2.2.2.2.2.2.2.1.1) (av := [_]) rfl rfl (Nat.le_of_ble_eq_true rfl) (c_answer _ (sx_0 hj.2.2.2.2.2.2.2.1.1) _) (Nat.le_refl _) (Nat.le_refl _) (Nat.le_refl _) (Nat.le_refl _) ?_
    rintro _ _ ⟨rfl, rfl⟩
    refine z_iret dX11_printPairs_75 rfl rfl ?_
    rw [show i.toNat = T.2.2.2.toNat by omega] at hx ⊢
    exact hP _ hj hf hx
  | succ j ih =>
    intro i m1 h0 hi hj h5 hf hx hP
    have hln := (tA_l hA0).1
    have hni := nT_i hA0
    have htt := cJ_t hj
    have hra := row_at hA0 k0 k1 h0 (show i < T.2.2.2 by omega)
    have hrn := row_iv hA0 k0 k1 h0 (show i < T.2.2.2 by omega)
    refine z_iload_n dX11_printPairs_23 rfl ?_
    refine z_aload_n dX11_printPairs_24 rfl ?_
    refine z_gP 9 rfl (r := t) flX11_71 dX11_printPairs_25 (sx_0 hj.2.2.2.2.2.2.2.1.1) rfl (hj.1.1.2.2.2.2.2.2.2.2.2.1) (by omega) ?_
    refine z_gIv 14 rfl flX11_108 dX11_printPairs_28 (sx_T hj.2.2.2.2.2.2.2.1.1 (cJ_t hj)).1 rfl (hj.2.1.2.1.1) ?_
    refine z_icmp_ge (tgt := 64) dX11_printPairs_31 rfl (fun h => absurd h (by omega)) (fun h31 => ?_)
    refine z_aload_n dX11_printPairs_34 rfl ?_
    refine z_callV mlX11_124 dX11_printPairs_35 (sx_0 hj.2.2.2.2.2.2.2.1.1) (av := _) rfl rfl (Nat.le_of_ble_eq_true rfl) (c_kP1 _ T X t s a cap a2 cap2 ka kcap b bcap hj h5) (Nat.le_refl _) (Nat.le_refl _) (Nat.le_refl _) (Nat.le_refl _) ?_
    rintro _ _ ⟨rfl, rfl⟩
    refine z_iload_n dX11_printPairs_38 rfl ?_
    refine z_iload_n dX11_printPairs_39 rfl ?_
    refine z_callV mlX11_265 dX11_printPairs_40 (sx_8 hj.2.2.2.2.2.2.2.1.1) (av := [_, _]) rfl rfl (Nat.le_of_ble_eq_true rfl) (x_mate _ T X t s a cap a2 cap2 ka kcap b bcap hj h5 k k0 k1 i h0 (by omega)) (Nat.le_refl _) (Nat.le_refl _) (Nat.le_refl _) (Nat.le_refl _) ?_
    rintro _ _ ⟨rfl, rfl⟩
    refine z_ist 3 dX11_printPairs_43 rfl (Nat.le_of_ble_eq_true rfl) ?_
    refine z_iload_n dX11_printPairs_44 rfl ?_
    refine z_iload_n dX11_printPairs_45 rfl ?_
    try dsimp only [zs0, zsI, zsP, zsN, zsJ, zsS, zst2, Nat.reduceAdd]
    refine z_icmp_ge (tgt := 58) dX11_printPairs_46 rfl (fun h46 => ?_) (fun h46 => ?_)
    · refine z_inc dX11_printPairs_58 rfl (by omega) ?_
      refine z_goto (tgt := 23) dX11_printPairs_61 rfl ?_
      try dsimp only [zs0, zsI, zsP, zsN, zsJ, zsS, zst2, Nat.reduceAdd]
      refine zA_wk [_, _, _, zN] (by exact ⟨Or.inr rfl, Or.inr rfl, Or.inr rfl, Or.inl rfl, trivial⟩) ?_
      exact ih (i + 1) m1 (by omega) (by omega) hj h5 hf (by rw [show (i + 1).toNat = i.toNat + 1 by omega, sCat_snoc, show (0 : Int) + (i.toNat : Int) = i by omega, show pPr (tMt T k) i = [] from if_pos (by omega), List.append_nil]; exact hx) hP
    · have hlb := pp_len (tMt T k) i.toNat
      have hop := row_op hA0 k0 k1 h0 (show i < T.2.2.2 by omega) (by omega)
      refine z_aload_n dX11_printPairs_49 rfl ?_
      refine z_gP 8 rfl (r := 37) flX11_64 dX11_printPairs_50 (sx_0 hj.2.2.2.2.2.2.2.1.1) rfl (hj.1.1.2.2.2.2.2.2.2.2.1) (by omega) ?_
      refine z_iload_n dX11_printPairs_53 rfl ?_
      refine z_iload_n dX11_printPairs_54 rfl ?_
      refine z_callV mlX11_357 dX11_printPairs_55 (sx_P hj.2.2.2.2.2.2.2.1.1).1 (av := [_, _]) rfl rfl (Nat.le_of_ble_eq_true rfl) (c_putPair _ 37 (by omega) (sx_P hj.2.2.2.2.2.2.2.1.1) hj.1.2.2.2.1 i (tMt T k i) (by omega) (by omega) (by have h0 := hx.1; first | omega | (rw [List.length_nil] at h0; omega)) (by have h0 := hx.1; first | omega | (rw [List.length_nil] at h0; omega))) (Nat.le_refl _) (Nat.le_refl _) (Nat.le_refl _) (Nat.le_refl _) ?_
      rintro _ m2 ⟨rfl, ho, hp⟩
      obtain ⟨hj2, hf2, h92, h52⟩ := cJ_p hj ho.2.2.2
      refine z_inc dX11_printPairs_58 rfl (by omega) ?_
      refine z_goto (tgt := 23) dX11_printPairs_61 rfl ?_
      try dsimp only [zs0, zsI, zsP, zsN, zsJ, zsS, zst2, Nat.reduceAdd]
      refine zA_wk [_, _, _, zN] (by exact ⟨Or.inr rfl, Or.inr rfl, Or.inr rfl, Or.inl rfl, trivial⟩) ?_
      exact ih (i + 1) m2 (by omega) (by omega) hj2 (h52.trans h5) (pFr_tr hf hf2) (by rw [show (i + 1).toNat = i.toNat + 1 by omega, sCat_snoc, show (0 : Int) + (i.toNat : Int) = i by omega, show pPr (tMt T k) i = _ from if_neg (by omega)]; exact cTx_ap hx ho (by have := pPr_len (tMt T k) i; rw [show pPr (tMt T k) i = _ from if_neg (by omega)] at this; omega)) hP

theorem l_cpp0 (d : Nat) {E E0 : zE} {m m1 : zM} {P : Option zV → zM → Prop} (T : zT) (X : Int → Int) (t s a cap a2 cap2 ka kcap b bcap : Int) (hA0 : tA T X) (k : Int) (k0 : 0 ≤ k) (k1 : k < lT T) (hn0 : 0 < T.2.2.2) (hj : cJ m1 E T X t s a cap a2 cap2 ka kcap b bcap) (hf : pFr m m1) (hx : cTx m1 []) (hP : ∀ m2, cJ m2 (pE E T cap) T X t s (pAx E T a cap) (pC T cap) a2 cap2 ka kcap b bcap → pFr m m2 → cTx m2 (tTxtP T k) → P (some (zI ((tTxtP T k).length : Int))) (zu m2 0 11 0)) : zA zX11_printPairs (d + 16) E0 (pE E T cap) P 23 [zP 0, zI k, zI 0, zN] [] m1 E := by
  have le := pE_le E T cap
  have hln := (tA_l hA0).1
  have hni := nT_i hA0
  have htt := cJ_t hj
  have hx1 := hx.1
  have hra := row_at hA0 k0 k1 (show (0 : Int) ≤ 0 by omega) hn0
  have hrn := row_iv hA0 k0 k1 (show (0 : Int) ≤ 0 by omega) hn0
  refine z_iload_n dX11_printPairs_23 rfl ?_
  refine z_aload_n dX11_printPairs_24 rfl ?_
  refine z_gP 9 rfl (r := t) flX11_71 dX11_printPairs_25 (sx_0 hj.2.2.2.2.2.2.2.1.1) rfl (hj.1.1.2.2.2.2.2.2.2.2.2.1) (by omega) ?_
  refine z_gIv 14 rfl flX11_108 dX11_printPairs_28 (sx_T hj.2.2.2.2.2.2.2.1.1 (cJ_t hj)).1 rfl (hj.2.1.2.1.1) ?_
  refine z_icmp_ge (tgt := 64) dX11_printPairs_31 rfl (fun h => absurd h (by omega)) (fun h31 => ?_)
  refine z_aload_n dX11_printPairs_34 rfl ?_
  refine z_callV mlX11_124 dX11_printPairs_35 (sx_0 hj.2.2.2.2.2.2.2.1.1) (av := _) rfl rfl (Nat.le_of_ble_eq_true rfl) (c_kPx (d + 4) T X t s a cap a2 cap2 ka kcap b bcap hj) (by first | exact Nat.le_refl _ | exact le.1) (by first | exact Nat.le_refl _ | exact le.2) (Nat.le_refl _) (Nat.le_refl _) ?_
  rintro _ m2 ⟨rfl, hj2, h5, q2, _⟩
  have hx2 := cTx_q hx q2
  refine z_iload_n dX11_printPairs_38 rfl ?_
  refine z_iload_n dX11_printPairs_39 rfl ?_
  refine z_callV mlX11_265 dX11_printPairs_40 (sx_8 hj2.2.2.2.2.2.2.2.1.1) (av := [_, _]) rfl rfl (Nat.le_of_ble_eq_true rfl) (x_mate _ T X _ _ _ _ _ _ _ _ _ _ hj2 h5 k k0 k1 0 (by omega) (by omega)) (Nat.le_refl _) (Nat.le_refl _) (Nat.le_refl _) (Nat.le_refl _) ?_
  rintro _ _ ⟨rfl, rfl⟩
  refine z_ist 3 dX11_printPairs_43 rfl (Nat.le_of_ble_eq_true rfl) ?_
  refine z_iload_n dX11_printPairs_44 rfl ?_
  refine z_iload_n dX11_printPairs_45 rfl ?_
  try dsimp only [zs0, zsI, zsP, zsN, zsJ, zsS, zst2, Nat.reduceAdd]
  refine z_icmp_ge (tgt := 58) dX11_printPairs_46 rfl (fun h => absurd h (by omega)) (fun h46 => ?_)
  refine z_aload_n dX11_printPairs_49 rfl ?_
  refine z_gP 8 rfl (r := 37) flX11_64 dX11_printPairs_50 (sx_0 hj2.2.2.2.2.2.2.2.1.1) rfl (hj2.1.1.2.2.2.2.2.2.2.2.1) (by omega) ?_
  refine z_iload_n dX11_printPairs_53 rfl ?_
  refine z_iload_n dX11_printPairs_54 rfl ?_
  refine z_callV mlX11_357 dX11_printPairs_55 (sx_P hj2.2.2.2.2.2.2.2.1.1).1 (av := [_, _]) rfl rfl (Nat.le_of_ble_eq_true rfl) (c_putPair _ 37 (by omega) (sx_P hj2.2.2.2.2.2.2.2.1.1) hj2.1.2.2.2.1 0 (tMt T k 0) (by omega) (by omega) (by have h0 := hx2.1; first | omega | (rw [List.length_nil] at h0; omega)) (by have h0 := hx2.1; first | omega | (rw [List.length_nil] at h0; omega))) (Nat.le_refl _) (Nat.le_refl _) (Nat.le_refl _) (Nat.le_refl _) ?_
  rintro _ m3 ⟨rfl, ho, hp⟩
  obtain ⟨hj3, hf3, h93, h53⟩ := cJ_p hj2 ho.2.2.2
  refine z_inc dX11_printPairs_58 rfl (by omega) ?_
  refine z_goto (tgt := 23) dX11_printPairs_61 rfl ?_
  try dsimp only [zs0, zsI, zsP, zsN, zsJ, zsS, zst2, Nat.reduceAdd]
  refine zA_wk [_, _, _, zN] (by exact ⟨Or.inr rfl, Or.inr rfl, Or.inr rfl, Or.inl rfl, trivial⟩) ?_
  exact l_cpp (d + 13) T X _ _ _ _ _ _ _ _ _ _ hA0 k k0 k1 (T.2.2.2.toNat - 1) 1 m3 (by omega) (by omega) hj3 (h53.trans h5) (pFr_tr (pFr_tr hf (pFr_q q2)) hf3) (by rw [show (1 : Int).toNat = 0 + 1 by rfl, sCat_snoc, show (0 : Int) + ((0 : Nat) : Int) = 0 by rfl, show pPr (tMt T k) 0 = _ from if_neg (by omega)]; exact cTx_ap hx2 ho (by have := pPr_len (tMt T k) 0; rw [show pPr (tMt T k) 0 = _ from if_neg (by omega)] at this; show ([] : List Int).length + _ ≤ 48; rw [List.length_nil]; omega)) hP

theorem p_printPairs (d : Nat) {E : zE} {m : zM} (T : zT) (X : Int → Int) (t s a cap a2 cap2 ka kcap b bcap : Int) (hJ : cJ m E T X t s a cap a2 cap2 ka kcap b bcap) (k : Int) (Lt : List Int) (hLt : cTx m Lt) : ∃ E1 : zE, (E.2.1 ≤ E1.2.1 ∧ E.2.2 ≤ E1.2.2) ∧ EB E1 ∧ zR zX11_printPairs (d + 16) [zP 0, zI k] m E E1 (fun r m' => r = some (zI (aPrintP T k).2) ∧ cPq m m' E1 T X (aPrintP T k).1 (if (aPrintP T k).1 = 0 then tTxtP T k else Lt)) := by
  have htt := cJ_t hJ
  have hln := (tA_l hJ.2.2.2.2.2.2.2.2.1).1
  have hni := nT_i hJ.2.2.2.2.2.2.2.2.1
  by_cases hc0 : (0 ≤ k ∧ k < lT T) ∧ 0 < T.2.2.2
  · have le := pE_le E T cap
    refine ⟨pE E T cap, le, EB_p hJ T, ?_⟩
    refine zR_go [zP 0, zI k, zN, zN] (by decide +kernel) (Nat.le_of_ble_eq_true rfl) rfl rfl ?_
    refine z_aload_n dX11_printPairs_0 rfl ?_
    refine z_iload_n dX11_printPairs_1 rfl ?_
    refine z_callV mlX11_262 dX11_printPairs_2 (sx_0 hJ.2.2.2.2.2.2.2.1.1) (av := [_]) rfl rfl (Nat.le_of_ble_eq_true rfl) (c_hasPairing _ T X _ _ _ _ _ _ _ _ _ _ hJ _) (Nat.le_refl _) (Nat.le_refl _) (by first | exact Nat.le_refl _ | exact le.1) (by first | exact Nat.le_refl _ | exact le.2) ?_
    rintro _ m1 ⟨rfl, j1, q1, _⟩
    refine z_ifz_ne (tgt := 14) dX11_printPairs_5 rfl (fun h5 => ?_) (fun h => absurd hc0.1 h)
    refine z_aload_n dX11_printPairs_14 rfl ?_
    refine z_gP 8 rfl (r := 37) flX11_64 dX11_printPairs_15 (sx_0 j1.2.2.2.2.2.2.2.1.1) rfl (j1.1.1.2.2.2.2.2.2.2.2.1) (by omega) ?_
    refine z_callV mlX11_347 dX11_printPairs_18 (sx_P j1.2.2.2.2.2.2.2.1.1).1 (av := _) rfl rfl (Nat.le_of_ble_eq_true rfl) (c_pclear _ 37 (by omega) (sx_P j1.2.2.2.2.2.2.2.1.1) j1.1.2.2.2.1) (Nat.le_refl _) (Nat.le_refl _) (by first | exact Nat.le_refl _ | exact le.1) (by first | exact Nat.le_refl _ | exact le.2) ?_
    rintro _ m2 ⟨rfl, f2, e2, _⟩
    obtain ⟨j2, p2, h9_, h5_⟩ := cJ_p j1 f2
    refine z_iconst dX11_printPairs_21 (by decide) ?_
    refine z_ist 2 dX11_printPairs_22 rfl (Nat.le_of_ble_eq_true rfl) ?_
    try dsimp only [zs0, zsI, zsP, zsN, zsJ, zsS, zst2, Nat.reduceAdd]
    refine l_cpp0 d T X _ _ _ _ _ _ _ _ _ _ hJ.2.2.2.2.2.2.2.2.1 k hc0.1.1 hc0.1.2 hc0.2 j2 (pFr_tr (pFr_q q1) p2) (cTx_0 e2) (fun m3 j3 p3 x3 => ?_)
    rw [show aPrintP T k = (0, ((tTxtP T k).length : Int)) from by unfold aPrintP; rw [if_neg (not_not_intro hc0.1)]]
    exact ⟨rfl, cPq_st j3 p3 x3 _⟩
  by_cases hc1 : 0 ≤ k ∧ k < lT T
  · refine ⟨E, ⟨Nat.le_refl _, Nat.le_refl _⟩, EB_e hJ, ?_⟩
    refine zR_go [zP 0, zI k, zN, zN] (by decide +kernel) (Nat.le_of_ble_eq_true rfl) rfl rfl ?_
    refine z_aload_n dX11_printPairs_0 rfl ?_
    refine z_iload_n dX11_printPairs_1 rfl ?_
    refine z_callV mlX11_262 dX11_printPairs_2 (sx_0 hJ.2.2.2.2.2.2.2.1.1) (av := [_]) rfl rfl (Nat.le_of_ble_eq_true rfl) (c_hasPairing _ T X _ _ _ _ _ _ _ _ _ _ hJ _) (Nat.le_refl _) (Nat.le_refl _) (by first | exact Nat.le_refl _ | exact le.1) (by first | exact Nat.le_refl _ | exact le.2) ?_
    rintro _ m1 ⟨rfl, j1, q1, _⟩
    refine z_ifz_ne (tgt := 14) dX11_printPairs_5 rfl (fun h5 => ?_) (fun h => absurd hc1 h)
    refine z_aload_n dX11_printPairs_14 rfl ?_
    refine z_gP 8 rfl (r := 37) flX11_64 dX11_printPairs_15 (sx_0 j1.2.2.2.2.2.2.2.1.1) rfl (j1.1.1.2.2.2.2.2.2.2.2.1) (by omega) ?_
    refine z_callV mlX11_347 dX11_printPairs_18 (sx_P j1.2.2.2.2.2.2.2.1.1).1 (av := _) rfl rfl (Nat.le_of_ble_eq_true rfl) (c_pclear _ 37 (by omega) (sx_P j1.2.2.2.2.2.2.2.1.1) j1.1.2.2.2.1) (Nat.le_refl _) (Nat.le_refl _) (by first | exact Nat.le_refl _ | exact le.1) (by first | exact Nat.le_refl _ | exact le.2) ?_
    rintro _ m2 ⟨rfl, f2, e2, _⟩
    obtain ⟨j2, p2, h9_, h5_⟩ := cJ_p j1 f2
    refine z_iconst dX11_printPairs_21 (by decide) ?_
    refine z_ist 2 dX11_printPairs_22 rfl (Nat.le_of_ble_eq_true rfl) ?_
    refine z_iload_n dX11_printPairs_23 rfl ?_
    refine z_aload_n dX11_printPairs_24 rfl ?_
    refine z_gP 9 rfl (r := t) flX11_71 dX11_printPairs_25 (sx_0 j2.2.2.2.2.2.2.2.1.1) rfl (j2.1.1.2.2.2.2.2.2.2.2.2.1) (by omega) ?_
    refine z_gIv 14 rfl flX11_108 dX11_printPairs_28 (sx_T j2.2.2.2.2.2.2.2.1.1 (cJ_t j2)).1 rfl (j2.2.1.2.1.1) ?_
    try dsimp only [zs0, zsI, zsP, zsN, zsJ, zsS, zst2, Nat.reduceAdd]
    refine z_icmp_ge (tgt := 64) dX11_printPairs_31 rfl (fun h31 => ?_) (fun h => absurd (by omega) h)
    refine z_aload_n dX11_printPairs_64 rfl ?_
    refine z_aload_n dX11_printPairs_65 rfl ?_
    refine z_gP 8 rfl (r := 37) flX11_64 dX11_printPairs_66 (sx_0 j2.2.2.2.2.2.2.2.1.1) rfl (j2.1.1.2.2.2.2.2.2.2.2.1) (by omega) ?_
    refine z_gIv 1 rfl flX11_354 dX11_printPairs_69 (sx_P j2.2.2.2.2.2.2.2.1.1).1 rfl e2 ?_
    refine z_callV mlX11_111 dX11_printPairs_72 (sx_0 j2.2.2.2.2.2.2.2.1.1) (av := [_]) rfl rfl (Nat.le_of_ble_eq_true rfl) (c_answer _ (sx_0 j2.2.2.2.2.2.2.2.1.1) _) (Nat.le_refl _) (Nat.le_refl _) (by first | exact Nat.le_refl _ | exact le.1) (by first | exact Nat.le_refl _ | exact le.2) ?_
    rintro _ _ ⟨rfl, rfl⟩
    refine z_iret dX11_printPairs_75 rfl rfl ?_
    have et : tTxtP T k = [] := by unfold tTxtP; rw [show T.2.2.2.toNat = 0 by omega]; rfl
    rw [show aPrintP T k = (0, ((tTxtP T k).length : Int)) from by unfold aPrintP; rw [if_neg (not_not_intro hc1)], et]
    exact ⟨rfl, cPq_st j2 (pFr_tr (pFr_q q1) p2) (cTx_0 e2) _⟩
  refine ⟨E, ⟨Nat.le_refl _, Nat.le_refl _⟩, EB_e hJ, ?_⟩
  refine zR_go [zP 0, zI k, zN, zN] (by decide +kernel) (Nat.le_of_ble_eq_true rfl) rfl rfl ?_
  refine z_aload_n dX11_printPairs_0 rfl ?_
  refine z_iload_n dX11_printPairs_1 rfl ?_
  refine z_callV mlX11_262 dX11_printPairs_2 (sx_0 hJ.2.2.2.2.2.2.2.1.1) (av := [_]) rfl rfl (Nat.le_of_ble_eq_true rfl) (c_hasPairing _ T X _ _ _ _ _ _ _ _ _ _ hJ _) (Nat.le_refl _) (Nat.le_refl _) (by first | exact Nat.le_refl _ | exact le.1) (by first | exact Nat.le_refl _ | exact le.2) ?_
  rintro _ m1 ⟨rfl, j1, q1, _⟩
  refine z_ifz_ne (tgt := 14) dX11_printPairs_5 rfl (fun h => absurd h hc1) (fun h5 => ?_)
  refine z_aload_n dX11_printPairs_8 rfl ?_
  refine z_iconst dX11_printPairs_9 (by decide) ?_
  refine z_callV mlX11_93 dX11_printPairs_10 (sx_0 j1.2.2.2.2.2.2.2.1.1) (av := [_]) rfl rfl (Nat.le_of_ble_eq_true rfl) (c_refuse _ (sx_0 j1.2.2.2.2.2.2.2.1.1) _) (Nat.le_refl _) (Nat.le_refl _) (by first | exact Nat.le_refl _ | exact le.1) (by first | exact Nat.le_refl _ | exact le.2) ?_
  rintro _ _ ⟨rfl, rfl⟩
  refine z_iret dX11_printPairs_13 rfl rfl ?_
  rw [show aPrintP T k = (2, -1) from by unfold aPrintP; rw [if_pos hc1]]
  exact ⟨rfl, cPq_st j1 (pFr_q q1) (cTx_q hLt q1) _⟩

theorem p_feed (d : Nat) {E : zE} {m : zM} (T : zT) (X : Int → Int) (t s a cap a2 cap2 ka kcap b bcap : Int) (hJ : cJ m E T X t s a cap a2 cap2 ka kcap b bcap) (v1 v2 v3 v4 v5 : Int) : zR zX11_feed (d + 16) [zP 0, zI v1, zI v2, zI v3, zI v4, zI v5] m E E (fun r m' => r = some (zI (if m 1 1 + 20 ≤ 400 then m 1 1 + 20 else -1)) ∧ cJ m' E T X t s a cap a2 cap2 ka kcap b bcap ∧ (∀ x k : Int, x ≠ 2 → (x ≠ 1 ∨ k ≠ 1) → m' x k = m x k) ∧ m' 1 1 = (if m 1 1 + 20 ≤ 400 then m 1 1 + 20 else m 1 1) ∧ ∀ x, 0 ≤ x → kn (m' 2 x) = if m 1 1 + 20 ≤ 400 ∧ m 1 1 ≤ x ∧ x < m 1 1 + 20 then kn (fd v1 v2 v3 v4 v5 (x - m 1 1)) else kn (m 2 x)) := by
  have htp := hJ.1.2.2.2.2.2.2.2
  refine zR_go [zP 0, zI v1, zI v2, zI v3, zI v4, zI v5] (by decide +kernel) (Nat.le_of_ble_eq_true rfl) rfl rfl ?_
  refine z_aload_n dX11_feed_0 rfl ?_
  refine z_gP 0 rfl (r := 1) flX11_10 dX11_feed_1 (sx_0 hJ.2.2.2.2.2.2.2.1.1) rfl (hJ.1.1.1) (by omega) ?_
  refine z_gI 1 rfl flX11_82 dX11_feed_4 (sx_K hJ.2.2.2.2.2.2.2.1.1).1 rfl ?_
  refine z_sipush dX11_feed_7 rfl (by decide) ?_
  refine z_icmp_le (tgt := 15) dX11_feed_10 rfl (fun h10 => ?_) (fun h10 => ?_)
  · refine z_aload_n dX11_feed_15 rfl ?_
    refine z_gP 0 rfl (r := 1) flX11_10 dX11_feed_16 (sx_0 hJ.2.2.2.2.2.2.2.1.1) rfl (hJ.1.1.1) (by omega) ?_
    refine z_iload_n dX11_feed_19 rfl ?_
    refine z_callV mlX11_85 dX11_feed_20 (sx_K hJ.2.2.2.2.2.2.2.1.1).1 (av := [_]) rfl rfl (Nat.le_of_ble_eq_true rfl) (c_append _ (sx_K hJ.2.2.2.2.2.2.2.1.1) v1 hJ.1.2.1 (by omega) (by omega)) (Nat.le_refl _) (Nat.le_refl _) (Nat.le_refl _) (Nat.le_refl _) ?_
    rintro _ m1 ⟨rfl, e1⟩
    obtain ⟨a1, b1, c1, d1⟩ := apN_is m v1
    rw [← e1] at a1 b1 c1 d1
    have j1 := cJ_loc1 hJ (m' := m1) (by omega) (fun x k q => b1 x k (by omega) (by omega))
    refine z_aload_n dX11_feed_23 rfl ?_
    refine z_gP 0 rfl (r := 1) flX11_10 dX11_feed_24 (sx_0 j1.2.2.2.2.2.2.2.1.1) rfl (j1.1.1.1) (by omega) ?_
    refine z_iload_n dX11_feed_27 rfl ?_
    refine z_callV mlX11_85 dX11_feed_28 (sx_K j1.2.2.2.2.2.2.2.1.1).1 (av := [_]) rfl rfl (Nat.le_of_ble_eq_true rfl) (c_append _ (sx_K j1.2.2.2.2.2.2.2.1.1) v2 j1.1.2.1 (by omega) (by omega)) (Nat.le_refl _) (Nat.le_refl _) (Nat.le_refl _) (Nat.le_refl _) ?_
    rintro _ m2 ⟨rfl, e2⟩
    obtain ⟨a2, b2, c2, d2⟩ := apN_is m1 v2
    rw [← e2] at a2 b2 c2 d2
    have j2 := cJ_loc1 j1 (m' := m2) (by omega) (fun x k q => b2 x k (by omega) (by omega))
    refine z_aload_n dX11_feed_31 rfl ?_
    refine z_gP 0 rfl (r := 1) flX11_10 dX11_feed_32 (sx_0 j2.2.2.2.2.2.2.2.1.1) rfl (j2.1.1.1) (by omega) ?_
    refine z_iload_n dX11_feed_35 rfl ?_
    refine z_callV mlX11_85 dX11_feed_36 (sx_K j2.2.2.2.2.2.2.2.1.1).1 (av := [_]) rfl rfl (Nat.le_of_ble_eq_true rfl) (c_append _ (sx_K j2.2.2.2.2.2.2.2.1.1) v3 j2.1.2.1 (by omega) (by omega)) (Nat.le_refl _) (Nat.le_refl _) (Nat.le_refl _) (Nat.le_refl _) ?_
    rintro _ m3 ⟨rfl, e3⟩
    obtain ⟨a3, b3, c3, d3⟩ := apN_is m2 v3
    rw [← e3] at a3 b3 c3 d3
    have j3 := cJ_loc1 j2 (m' := m3) (by omega) (fun x k q => b3 x k (by omega) (by omega))
    refine z_aload_n dX11_feed_39 rfl ?_
    refine z_gP 0 rfl (r := 1) flX11_10 dX11_feed_40 (sx_0 j3.2.2.2.2.2.2.2.1.1) rfl (j3.1.1.1) (by omega) ?_
    refine z_iload dX11_feed_43 rfl ?_
    refine z_callV mlX11_85 dX11_feed_45 (sx_K j3.2.2.2.2.2.2.2.1.1).1 (av := [_]) rfl rfl (Nat.le_of_ble_eq_true rfl) (c_append _ (sx_K j3.2.2.2.2.2.2.2.1.1) v4 j3.1.2.1 (by omega) (by omega)) (Nat.le_refl _) (Nat.le_refl _) (Nat.le_refl _) (Nat.le_refl _) ?_
    rintro _ m4 ⟨rfl, e4⟩
    obtain ⟨a4, b4, c4, d4⟩ := apN_is m3 v4
    rw [← e4] at a4 b4 c4 d4
    have j4 := cJ_loc1 j3 (m' := m4) (by omega) (fun x k q => b4 x k (by omega) (by omega))
    refine z_aload_n dX11_feed_48 rfl ?_
    refine z_gP 0 rfl (r := 1) flX11_10 dX11_feed_49 (sx_0 j4.2.2.2.2.2.2.2.1.1) rfl (j4.1.1.1) (by omega) ?_
    refine z_iload dX11_feed_52 rfl ?_
    refine z_callV mlX11_85 dX11_feed_54 (sx_K j4.2.2.2.2.2.2.2.1.1).1 (av := [_]) rfl rfl (Nat.le_of_ble_eq_true rfl) (c_append _ (sx_K j4.2.2.2.2.2.2.2.1.1) v5 j4.1.2.1 (by omega) (by omega)) (Nat.le_refl _) (Nat.le_refl _) (Nat.le_refl _) (Nat.le_refl _) ?_
    rintro _ m5 ⟨rfl, e5⟩
    obtain ⟨a5, b5, c5, d5⟩ := apN_is m4 v5
    rw [← e5] at a5 b5 c5 d5
    have j5 := cJ_loc1 j4 (m' := m5) (by omega) (fun x k q => b5 x k (by omega) (by omega))
    refine z_aload_n dX11_feed_57 rfl ?_
    refine z_gP 0 rfl (r := 1) flX11_10 dX11_feed_58 (sx_0 j5.2.2.2.2.2.2.2.1.1) rfl (j5.1.1.1) (by omega) ?_
    refine z_gI 1 rfl flX11_82 dX11_feed_61 (sx_K j5.2.2.2.2.2.2.2.1.1).1 rfl ?_
    refine z_iret dX11_feed_64 rfl rfl ?_
    refine ⟨by rw [if_pos (by omega)]; exact congrArg (fun z => some (zI z)) (by omega), j5, fun x k q r => by rw [b5 x k q r, b4 x k q r, b3 x k q r, b2 x k q r, b1 x k q r], by rw [if_pos (by omega)]; omega, fun x x0 => ?_⟩
    exact fd_all (by omega) a1 a2 a3 a4 c1 c2 c3 c4 c5 d1 d2 d3 d4 d5
  · refine z_iconst dX11_feed_13 (by decide) ?_
    refine z_iret dX11_feed_14 rfl rfl ?_
    exact ⟨by rw [if_neg (by omega)], hJ, fun _ _ _ _ => rfl, by rw [if_neg (by omega)], fun x x0 => by rw [if_neg (by omega)]⟩
