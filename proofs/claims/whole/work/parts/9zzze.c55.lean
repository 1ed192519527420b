def cLd (m m' : zM) (E' : zE) (T : zT) (X : Int → Int) (st tp fk fa : Int) : Prop := (∃ t s a cap a2 cap2 ka kcap b bcap, cJ m' E' T X t s a cap a2 cap2 ka kcap b bcap) ∧ (∀ a k : Int, (a = 2 ∨ (37 ≤ a ∧ a ≤ 38) ∨ (95 ≤ a ∧ a < 121)) → m' a k = m a k) ∧ m' 0 11 = st ∧ m' 1 1 = tp ∧ m' 1 8 = fk ∧ m' 1 9 = fa
theorem cLd_st {m m1 : zM} {E : zE} {T : zT} {X : Int → Int} {t s a cap a2 cap2 ka kcap b bcap tp fk fa : Int} (h : cJ m1 E T X t s a cap a2 cap2 ka kcap b bcap) (f : ∀ a k : Int, (a = 2 ∨ (37 ≤ a ∧ a ≤ 38) ∨ (95 ≤ a ∧ a < 121)) → m1 a k = m a k) (e1 : m1 1 1 = tp) (e8 : m1 1 8 = fk) (e9 : m1 1 9 = fa) (v : Int) : cLd m (zu m1 0 11 v) E T X v tp fk fa := ⟨⟨t, s, a, cap, a2, cap2, ka, kcap, b, bcap, cJ_st h v⟩, fun x k q => by rw [zu_a (by omega)]; exact f x k q, zu_s, by rw [zu_a (by decide)]; exact e1, by rw [zu_a (by decide)]; exact e8, by rw [zu_a (by decide)]; exact e9⟩
theorem fRT_at {m m' : zM} {s a j : Int} (f : zfr (fRT s) m m') (h1 : a < s ∨ s + 27 < a) (h2 : a ≠ 1 ∨ j < 4 ∨ 7 < j) : m' a j = m a j := f a j (fun h => by
  rcases List.mem_append.mp h with z | z
  · simp [fTk] at z
  · simp only [fE, List.mem_cons, Prod.mk.injEq, reduceCtorEq, and_false, and_true, List.not_mem_nil, or_false, false_or] at z; omega) (fun h => by
  rcases List.mem_append.mp h with z | z
  · simp only [fTk, List.mem_cons, Prod.mk.injEq, Option.some.injEq, List.not_mem_nil, or_false] at z; omega
  · simp only [fE, List.mem_cons, Prod.mk.injEq, Option.some.injEq, reduceCtorEq, and_false, List.not_mem_nil, or_false] at z; omega)
theorem fRB_at {m m' : zM} {s a j : Int} (f : zfr (fRB s) m m') (h1 : a < s ∨ s + 27 < a) (h2 : a ≠ 1 ∨ j < 4 ∨ 9 < j) : m' a j = m a j := f a j (fun h => by
  rcases List.mem_cons.mp h with z | h
  · simp at z
  rcases List.mem_cons.mp h with z | h
  · simp at z
  rcases List.mem_append.mp h with z | z
  · simp [fTk] at z
  · simp only [fE, List.mem_cons, Prod.mk.injEq, reduceCtorEq, and_false, and_true, List.not_mem_nil, or_false, false_or] at z; omega) (fun h => by
  rcases List.mem_cons.mp h with z | h
  · simp at z; omega
  rcases List.mem_cons.mp h with z | h
  · simp at z; omega
  rcases List.mem_append.mp h with z | z
  · simp only [fTk, List.mem_cons, Prod.mk.injEq, Option.some.injEq, List.not_mem_nil, or_false] at z; omega
  · simp only [fE, List.mem_cons, Prod.mk.injEq, Option.some.injEq, reduceCtorEq, and_false, List.not_mem_nil, or_false] at z; omega)
theorem cJ_rb {m m' : zM} {E : zE} {T : zT} {X : Int → Int} {t s a cap a2 cap2 ka kcap b bcap : Int} (h : cJ m E T X t s a cap a2 cap2 ka kcap b bcap) (f : zfr (fRB s) m m') (p : ptT m' s) : cJ m' E T X t s a cap a2 cap2 ka kcap b bcap := by
  obtain ⟨hA, hT, hW, hQ, hU, hD, hG, hE, hP, hR⟩ := h
  have ho := bE_pos hE
  have ht := hA.2.2.2.2.2.2.1
  have g : ∀ x k : Int, (x < s ∨ s + 27 < x) → (x ≠ 1 ∨ k < 4) → m' x k = m x k := fun x k q r => fRB_at f q (by omega)
  obtain ⟨⟨h0, h1, h2, h3, h4, h5, h6, h7, h8, h9, h10⟩, k1, k4, kp, kt, ks, hts, htl⟩ := hA
  refine ⟨⟨⟨(g 0 0 (by omega) (by omega)).trans h0, (g 0 1 (by omega) (by omega)).trans h1, (g 0 2 (by omega) (by omega)).trans h2, (g 0 3 (by omega) (by omega)).trans h3, (g 0 4 (by omega) (by omega)).trans h4, (g 0 5 (by omega) (by omega)).trans h5, (g 0 6 (by omega) (by omega)).trans h6, (g 0 7 (by omega) (by omega)).trans h7, (g 0 8 (by omega) (by omega)).trans h8, (g 0 9 (by omega) (by omega)).trans h9, (g 0 10 (by omega) (by omega)).trans h10⟩, (g 1 0 (by omega) (by omega)).trans k1, (g 4 0 (by omega) (by omega)).trans k4, (g 37 0 (by omega) (by omega)).trans kp, ptT_in kt (fun a j q0 q1 => g a j (by omega) (by omega)), p, hts, by rw [g 1 1 (by omega) (by omega)]; exact htl⟩, bT_in hT kt hP.1.1.1 (fun x k q0 q1 => g x k (by omega) (by omega)), bW_in hW (fun x k q => g x k (by omega) (by omega)), bQ_in hQ (fun x k q => g x k (by omega) (by omega)), bU_in hU (fun k q => g 11 k (by omega) (by omega)), bD_in hD (fun x k q => g x k (by omega) (by omega)), ptG_in hG (fun k q => g 33 k (by omega) (by omega)), hE, hP, ?_⟩
  rw [g 14 19 (by omega) (by omega), g 8 5 (by omega) (by omega)]
  exact hR
theorem bA_ld {m2 : zM} {E : zE} {T : zT} {X : Int → Int} {t s a cap a2 cap2 ka kcap b bcap : Int} (h : cJ m2 E T X t s a cap a2 cap2 ka kcap b bcap) (p : ptT m2 s) : bA (zu (zu m2 0 9 s) 0 10 t) s t := by
  obtain ⟨⟨⟨h0, h1, h2, h3, h4, h5, h6, h7, h8, h9, h10⟩, k1, k4, kp, kt, ks, hts, htl⟩, -⟩ := h
  have g : ∀ x k : Int, (x ≠ 0 ∨ (k ≠ 9 ∧ k ≠ 10)) → zu (zu m2 0 9 s) 0 10 t x k = m2 x k := fun x k q => by
    by_cases e : x = 0
    · rw [e, zu_j (by omega), zu_j (by omega)]
    · rw [zu_a e, zu_a e]
  exact ⟨⟨(g 0 0 (by omega)).trans h0, (g 0 1 (by omega)).trans h1, (g 0 2 (by omega)).trans h2, (g 0 3 (by omega)).trans h3, (g 0 4 (by omega)).trans h4, (g 0 5 (by omega)).trans h5, (g 0 6 (by omega)).trans h6, (g 0 7 (by omega)).trans h7, (g 0 8 (by omega)).trans h8, (zu_j (by omega)).trans zu_s, zu_s⟩, (g 1 0 (by omega)).trans k1, (g 4 0 (by omega)).trans k4, (g 37 0 (by omega)).trans kp, ptT_in ks (fun a j q0 q1 => g a j (by omega)), ptT_in kt (fun a j q0 q1 => g a j (by omega)), by omega, by rw [g 1 1 (by omega)]; exact htl⟩
theorem cJ_ld {m2 : zM} {E : zE} {T : zT} {X : Int → Int} {t s a cap a2 cap2 ka kcap b bcap : Int} (h : cJ m2 E T X t s a cap a2 cap2 ka kcap b bcap) (p : ptT m2 s) {c1 w1 q1 : Int → Int} {n1 : Int} (c2 : cTh m2 s c1) (l2 : cFl m2 s c1 w1 q1 n1) (o2 : ∀ i, 0 ≤ i → i < 800 → m2 (s + 11) i = 1) (hI : tI c1) (hfl : isFlat c1 w1 q1 n1) : cJ (fgA (zu (zu m2 0 9 s) 0 10 t)) E (c1, w1, q1, n1) (fun _ => 1) s t a cap a2 cap2 ka kcap b bcap := by
  have hA := bA_ld h p
  obtain ⟨hA0, hT, hW, hQ, hU, hD, hG, hE, hP, hR⟩ := h
  have ht := hA0.2.2.2.2.2.2.1
  have g : ∀ x k : Int, x ≠ 0 → zu (zu m2 0 9 s) 0 10 t x k = m2 x k := fun x k e => by rw [zu_a e, zu_a e]
  have hT1 : bT m2 s (c1, w1, q1, n1) (fun _ => 1) := ⟨c2, l2, o2⟩
  exact cJ_fg hA (bT_in hT1 p hI.1.1 (fun x k q0 q1 => g x k (by omega))) ((g 6 0 (by omega)).trans hW.1) ⟨(g 8 0 (by omega)).trans hQ.1, (g 8 1 (by omega)).trans hQ.2.1⟩ (bU_in hU (fun k q => g 11 k (by omega))) ⟨⟨(g 14 0 (by omega)).trans hD.1.1, (g 14 1 (by omega)).trans hD.1.2.1, (g 14 2 (by omega)).trans hD.1.2.2.1, (g 14 3 (by omega)).trans hD.1.2.2.2.1, (g 14 4 (by omega)).trans hD.1.2.2.2.2⟩, ptG_in hD.2.1 (fun k q => g 18 k (by omega)), (g 15 0 (by omega)).trans hD.2.2.1, (g 15 1 (by omega)).trans hD.2.2.2.1, qDg_in hD.2.2.2.2.1 (fun k _ _ => g 14 k (by omega))⟩ (ptG_in hG (fun k q => g 33 k (by omega))) hE ⟨hI, hfl, fun _ _ _ => (⟨by decide, by decide⟩ : (-9 : Int) ≤ 1 ∧ (1 : Int) ≤ 9)⟩
theorem fL_a5 {m m' : zM} {a j : Int} (f : zfr fL m m') (h1 : a ≠ 1 ∨ j < 4 ∨ 7 < j) (h2 : (a ≠ 4 ∨ j < 1) ∧ a ≠ 5) : m' a j = m a j := f a j (by simp [fL, fTk, fL4]; omega) (by simp [fL, fTk, fL4]; omega)
theorem fLB_at {m m' : zM} {a j : Int} (f : zfr fLB m m') (h1 : a ≠ 1 ∨ j < 4 ∨ 9 < j) (h2 : (a ≠ 4 ∨ j < 1) ∧ a ≠ 5) : m' a j = m a j := f a j (by simp [fLB, fL, fTk, fL4]; omega) (by simp [fLB, fL, fTk, fL4]; omega)
theorem fL4_a5 {m m' : zM} {a j : Int} (f : zfr fL4 m m') (h1 : a ≠ 4 ∨ j < 1) (h2 : a ≠ 5) : m' a j = m a j := f a j (by simp [fL4]; omega) (by simp [fL4]; omega)
theorem fL4_LB {m m' : zM} (f : zfr fL4 m m') : zfr fLB m m' := zfr_sub f (fun q hq => List.mem_cons_of_mem _ (List.mem_cons_of_mem _ (List.mem_append_right _ hq)))
theorem cJ_lr {m m' : zM} {E : zE} {T : zT} {X : Int → Int} {t s a cap a2 cap2 ka kcap b bcap : Int} (h : cJ m E T X t s a cap a2 cap2 ka kcap b bcap) (f : zfr fLB m m') : cJ m' E T X t s a cap a2 cap2 ka kcap b bcap := cJ_loc h (fun x k q => fLB_at f (by omega) (by omega))
theorem told_iff {m : zM} {mt : Int → Int} {u n : Int} (h : lP m mt u n) (hn : 0 ≤ n) : zmask (fun x => decide (0 ≤ mt (x : Int))) n.toNat = 2 ^ n.toNat - 1 ↔ sFr mt n.toNat = 0 := by
  constructor
  · intro e
    refine zsum_z (fun i i0 i1 => zb_f (fun z => ?_))
    have hb : (zmask (fun x => decide (0 ≤ mt (x : Int))) n.toNat).testBit i.toNat = true := by
      rw [e, Nat.testBit_two_pow_sub_one]
      exact decide_eq_true (by omega)
    rw [zmask_bit, Bool.and_eq_true, decide_eq_true_eq, decide_eq_true_eq, Int.toNat_of_nonneg i0] at hb
    omega
  · intro e
    refine zset_ext (fun i => ?_)
    rw [zmask_bit, Nat.testBit_two_pow_sub_one]
    by_cases hi : i < n.toNat
    · have hz := zsum_pos (f := fun i => zb (mt i < 0)) (j := n.toNat) (k := 0) (x := (i : Int)) (fun x _ _ => by have := zb01 (mt x < 0); omega) (by omega) (by omega)
      unfold sFr at e
      rw [e] at hz
      have h0 : 0 ≤ mt (i : Int) := by
        rcases Int.lt_or_le (mt (i : Int)) 0 with z | z
        · have : zb (mt (i : Int) < 0) = 1 := zb_t z
          omega
        · exact z
      rw [decide_eq_true hi, decide_eq_true h0]
      rfl
    · rw [decide_eq_false hi, Bool.false_and]
theorem told_no {m : zM} {mt : Int → Int} {u n : Int} (h : lP m mt u n) (hi : zmask (fun x => decide (0 ≤ mt (x : Int))) n.toNat = 2 ^ n.toNat - 1 ↔ sFr mt n.toNat = 0) (hne : ¬ ((zmask (fun x => decide (0 ≤ mt (x : Int))) n.toNat : Nat) : Int) = ((2 ^ n.toNat - 1 : Nat) : Int)) : 2 * u < n := by
  have h1 := h.2.2.2.2.1
  have h2 := (sFr_nn mt n.toNat).1
  have h3 : sFr mt n.toNat ≠ 0 := fun e => hne (congrArg (fun z : Nat => (z : Int)) (hi.mpr e))
  omega
theorem told_is {m : zM} {mt : Int → Int} {u n : Int} (h : lP m mt u n) (hi : zmask (fun x => decide (0 ≤ mt (x : Int))) n.toNat = 2 ^ n.toNat - 1 ↔ sFr mt n.toNat = 0) (he : ((zmask (fun x => decide (0 ≤ mt (x : Int))) n.toNat : Nat) : Int) = ((2 ^ n.toNat - 1 : Nat) : Int)) : ¬ 2 * u < n := by
  have h1 := h.2.2.2.2.1
  have h3 := hi.mp (Int.ofNat.inj he)
  omega
theorem told_yes {m : zM} {mt : Int → Int} {u n : Int} (h : lP m mt u n) (hi : zmask (fun x => decide (0 ≤ mt (x : Int))) n.toNat = 2 ^ n.toNat - 1 ↔ sFr mt n.toNat = 0) (hu : ¬ 2 * u < n) : ((zmask (fun x => decide (0 ≤ mt (x : Int))) n.toNat : Nat) : Int) = ((2 ^ n.toNat - 1 : Nat) : Int) := by
  have h1 := h.2.2.2.2.1
  have h2 := (sFr_nn mt n.toNat).1
  exact congrArg (fun z : Nat => (z : Int)) (hi.mpr (by omega))
theorem told_full {T : zT} {X : Int → Int} (h : tA T X) {m m2 : zM} {n : Int} (l : lP m2 (tPrs (m 2) T n).2.2.1 (tPrs (m 2) T n).2.2.2.1 T.2.2.2) (hz : (tPrs (m 2) T n).1 = 0) (h0 : sFr (tPrs (m 2) T n).2.2.1 T.2.2.2.toNat = 0) : sFull (nT T) (mayT T) (tPrs (m 2) T n).2.2.1 := full_of (pPairs_part 401 mt0 0 _ (fun i i0 i1 i2 => by
  have := (tA_l h).1
  unfold mt0 at i2
  rw [if_pos (by omega)] at i2
  omega) hz) h0
theorem find_at {T : zT} {X : Int → Int} (h : tA T X) {mt : Int → Int} (hf : sFull (nT T) (mayT T) mt) {x : Int} (hx : (x = -1 ∧ ∀ t : Nat, t < (tPairs T).length → rwN T t ≠ pkN (dg mt T.2.2.2) 12) ∨ ∃ t : Nat, t < (tPairs T).length ∧ x = (t : Int) ∧ rwN T t = pkN (dg mt T.2.2.2) 12) : x = tWh T mt ∧ 0 ≤ x := by
  obtain ⟨k, k1, k2, k3⟩ := told_at h hf
  rw [nT_i h] at k2
  rcases hx with ⟨x1, x2⟩ | ⟨t, t1, t2, t3⟩
  · exact absurd k2 (x2 k k1)
  · have e : t = k := by
      rcases Nat.lt_trichotomy t k with z | z | z
      · have := rw_lt h t k z k1; omega
      · exact z
      · have := rw_lt h k t z t1; omega
    rw [k3, t2, e]
    exact ⟨rfl, by omega⟩
theorem find_ok {T : zT} {X : Int → Int} (h : tA T X) {mt : Int → Int} (hf : sFull (nT T) (mayT T) mt) {x : Int} (hx : (x = -1 ∧ ∀ t : Nat, t < (tPairs T).length → rwN T t ≠ pkN (dg mt T.2.2.2) 12) ∨ ∃ t : Nat, t < (tPairs T).length ∧ x = (t : Int) ∧ rwN T t = pkN (dg mt T.2.2.2) 12) : x = tWh T mt := (find_at h hf hx).1
theorem find_nn {T : zT} {X : Int → Int} (h : tA T X) {mt : Int → Int} (hf : sFull (nT T) (mayT T) mt) {x : Int} (hx : (x = -1 ∧ ∀ t : Nat, t < (tPairs T).length → rwN T t ≠ pkN (dg mt T.2.2.2) 12) ∨ ∃ t : Nat, t < (tPairs T).length ∧ x = (t : Int) ∧ rwN T t = pkN (dg mt T.2.2.2) 12) : 0 ≤ x := (find_at h hf hx).2
theorem sp_0 {t : Int → Int} {T : zT} {tp n : Int} (h : sPrs t T tp n = 0) : (0 ≤ n ∧ n ≤ tp) ∧ (tPrs t T n).1 = 0 ∧ ((tPrs t T n).1 = 0 → ¬ 2 * (tPrs t T n).2.2.2.1 < T.2.2.2) := by
  unfold sPrs at h
  split at h
  · omega
  · rename_i a
    split at h
    · omega
    · rename_i b
      split at h
      · omega
      · rename_i c
        exact ⟨Classical.not_not.mp a, Classical.not_not.mp b, fun _ => c⟩
theorem lQ_q {m m' : zM} {td : Int → Int} {u : Int} {c : Int → Int} (h : lQ m td u c) (q : qFr m m') : lQ m' td u c := ⟨by rw [q 4 3 (by omega)]; exact h.1, h.2.1, fun i i0 i1 => by rw [q 5 i (by omega)]; exact h.2.2 i i0 i1⟩
theorem keys_F {T : zT} {X : Int → Int} (h : tA T X) {D : List Int} {F : Int → Int} (hB : bS T (tPairs T) D F) : ∀ v, F v ≠ -1 → v ∈ (tPairs T).map (tKy T) := fun v hv => by
  obtain ⟨j, -, r, r1, r2, -⟩ := hB.2.2.1 v hv
  exact keys_in (tA_w h) h.2.1 (tA_l h).1.2 r1 r2
theorem ln_5 {t td : Int → Int} {T : zT} {tp n : Int} (h5 : 0 ≤ n ∧ n ≤ tp) (hz : (tLns t T td n).1 = 0) (hu : (tLns t T td n).2.2.2.1 = T.2.2.2 / 2) (hni : ((nT T : Nat) : Int) = T.2.2.2) (hx : tIx T (tLc T (tLns t T td n).2.2.1 (tH T)) < 0) : sLns t T td tp n = 5 := by
  unfold sLns
  rw [if_neg (not_not_intro h5), if_neg (not_not_intro hz)]
  split
  · rfl
  · rw [show (tLns t T td n).2.2.2.1.toNat = tH T by unfold tH; rw [hu], if_pos hx]
theorem ln_0 {t td : Int → Int} {T : zT} {X : Int → Int} (h : tA T X) {tp n : Int} (h5 : 0 ≤ n ∧ n ≤ tp) (hz : (tLns t T td n).1 = 0) (hu : (tLns t T td n).2.2.2.1 = T.2.2.2 / 2) (hx : 0 ≤ tIx T (tLc T (tLns t T td n).2.2.1 (tH T))) : sLns t T td tp n = 0 := by
  have he : 2 * (T.2.2.2 / 2) = T.2.2.2 := by
    have hl := (tA_l h).1
    have hd : tD T ≠ [] := fun e => by
      unfold tIx at hx
      rw [e] at hx
      have hx2 : (0 : Int) ≤ -1 := hx
      omega
    obtain ⟨v, hv⟩ := List.exists_mem_of_ne_nil _ hd
    have hp : tPairs T ≠ [] := fun e => by
      unfold tD at hv
      rw [e] at hv
      simp [sSet] at hv
    obtain ⟨r, hr⟩ := List.exists_mem_of_ne_nil _ hp
    have := (tP_full (tA_n h) hr).2
    omega
  unfold sLns
  rw [if_neg (not_not_intro h5), if_neg (not_not_intro hz), if_neg (by omega), show (tLns t T td n).2.2.2.1.toNat = tH T by unfold tH; rw [hu], if_neg (by omega)]
theorem p_load (d : Nat) {E : zE} {m : zM} (T : zT) (X : Int → Int) (t s a cap a2 cap2 ka kcap b bcap : Int) (hJ : cJ m E T X t s a cap a2 cap2 ka kcap b bcap) (n : Int) (c0 : Int → Int) : zR zX11_load (d + 16) [zP 0, zI n] m E E (fun r m' => r = some (zI (if sLoad (m 2) c0 (m 1 1) n = 0 then cPre (tLoad (m 2) c0 n).2.2.1 ((tLoad (m 2) c0 n).2.2.1 2).toNat else -1)) ∧ (sLoad (m 2) c0 (m 1 1) n = 1 → cLd m m' E T X 1 (m 1 1) (m 1 8) (m 1 9)) ∧ (sLoad (m 2) c0 (m 1 1) n = 9 → cLd m m' E T X 9 0 (tLoad (m 2) c0 n).1 (tLoad (m 2) c0 n).2.1) ∧ (sLoad (m 2) c0 (m 1 1) n = 0 → ∃ T1 : zT, T1.1 = (tLoad (m 2) c0 n).2.2.1 ∧ cLd m m' E T1 (fun _ => 1) 0 0 0 (-1) ∧ m' 14 19 = 0)) := by
  have htt := cJ_t hJ
  have hln := (tA_l hJ.2.2.2.2.2.2.2.2.1).1
  have hni := nT_i hJ.2.2.2.2.2.2.2.2.1
  have hts := hJ.1.2.2.2.2.2.2.1
  have htp := hJ.1.2.2.2.2.2.2.2
  refine zR_go [zP 0, zI n, zN] (by decide +kernel) (Nat.le_of_ble_eq_true rfl) rfl rfl ?_
  refine z_aload_n dX11_load_0 rfl ?_
  refine z_iload_n dX11_load_1 rfl ?_
  refine z_callV mlX11_89 dX11_load_2 (sx_0 hJ.2.2.2.2.2.2.2.1.1) (av := [_]) rfl rfl (Nat.le_of_ble_eq_true rfl) (c_isOnTape _ T X t s a cap a2 cap2 ka kcap b bcap hJ n) (Nat.le_refl _) (Nat.le_refl _) (by first | exact Nat.le_refl _ | exact le.1) (by first | exact Nat.le_refl _ | exact le.2) ?_
  rintro _ _ ⟨rfl, rfl⟩
  refine z_ifz_ne (tgt := 14) dX11_load_5 rfl (fun h5 => ?_) (fun h5 => ?_)
  · refine z_aload_n dX11_load_14 rfl ?_
    refine z_gP 0 rfl (r := 1) flX11_10 dX11_load_15 (sx_0 hJ.2.2.2.2.2.2.2.1.1) rfl (hJ.1.1.1) (by omega) ?_
    refine z_iload_n dX11_load_18 rfl ?_
    refine z_iconst dX11_load_19 (by decide) ?_
    refine z_callV mlX11_97 dX11_load_20 (sx_K hJ.2.2.2.2.2.2.2.1.1).1 (av := [_, _]) rfl rfl (Nat.le_of_ble_eq_true rfl) (c_tbegin _ (sx_K hJ.2.2.2.2.2.2.2.1.1) hJ.1.2.1 n 0 (Or.inl rfl) (by omega) (by omega) (by omega)) (Nat.le_refl _) (Nat.le_refl _) (by first | exact Nat.le_refl _ | exact le.1) (by first | exact Nat.le_refl _ | exact le.2) ?_
    rintro _ m1 ⟨rfl, f1, k1, a1, t1, g1, g2⟩
    have b1 : ∀ x k : Int, (x ≠ 1 ∨ k < 1) → m1 x k = m x k := fun x k q => f1 x k (by simp [fBg]) (by simp [fBg]; omega)
    have j1 := cJ_loc1 hJ (m' := m1) (by omega) (fun x k q => b1 x k (by omega))
    refine z_aload_n dX11_load_23 rfl ?_
    refine z_gP 1 rfl (r := 3) flX11_19 dX11_load_24 (sx_0 j1.2.2.2.2.2.2.2.1.1) rfl (j1.1.1.2.1) (by omega) ?_
    refine z_aload_n dX11_load_27 rfl ?_
    refine z_gP 0 rfl (r := 1) flX11_10 dX11_load_28 (sx_0 j1.2.2.2.2.2.2.2.1.1) rfl (j1.1.1.1) (by omega) ?_
    refine z_aload_n dX11_load_31 rfl ?_
    refine z_gP 10 rfl (r := s) flX11_75 dX11_load_32 (sx_0 j1.2.2.2.2.2.2.2.1.1) rfl (j1.1.1.2.2.2.2.2.2.2.2.2.2) (by omega) ?_
    refine z_callV mlX11_101 dX11_load_35 (sx_3 j1.2.2.2.2.2.2.2.1.1) (av := [_, _]) rfl rfl (Nat.le_of_ble_eq_true rfl) (c_readTheory _ s (by omega) (sx_K j1.2.2.2.2.2.2.2.1.1) (sx_3 j1.2.2.2.2.2.2.2.1.1) (sx_T j1.2.2.2.2.2.2.2.1.1 (show s = 39 ∨ s = 67 by omega)) (mV (m 2) n, n, 0) j1.1.2.2.2.2.2.1 _ k1 a1 c0) (Nat.le_refl _) (Nat.le_refl _) (by first | exact Nat.le_refl _ | exact le.1) (by first | exact Nat.le_refl _ | exact le.2) ?_
    rintro _ m2 (⟨hz, rfl, f2, p2, c2, ⟨w1, q1, n1, hfl, l2⟩, o2⟩ | ⟨hz, rfl, f2, e8, e9, p2⟩)
    · have hz : (tLoad (m 2) c0 n).1 = 0 := hz
      have f3 := zfr_sub (F' := fRB s) f2 (fun q hq => List.mem_cons_of_mem _ (List.mem_cons_of_mem _ hq))
      have j2 := cJ_rb j1 f3 p2
      have hI1 := tI_load k1.1 (cZ_inv c0) hz
      have es : sLoad (m 2) c0 (m 1 1) n = 0 := by unfold sLoad; rw [if_neg (not_not_intro h5), if_neg (not_not_intro hz)]
      refine z_if_ne (tgt := 48) dX11_load_38 rfl (fun h38 => ?_) (fun h => absurd (by decide) h)
      refine z_aload_n dX11_load_48 rfl ?_
      refine z_gP 9 rfl (r := t) flX11_71 dX11_load_49 (sx_0 j2.2.2.2.2.2.2.2.1.1) rfl (j2.1.1.2.2.2.2.2.2.2.2.2.1) (by omega) ?_
      refine z_ast 2 dX11_load_52 rfl (Nat.le_of_ble_eq_true rfl) ?_
      refine z_aload_n dX11_load_53 rfl ?_
      refine z_aload_n dX11_load_54 rfl ?_
      refine z_gP 10 rfl (r := s) flX11_75 dX11_load_55 (sx_0 j2.2.2.2.2.2.2.2.1.1) rfl (j2.1.1.2.2.2.2.2.2.2.2.2.2) (by omega) ?_
      refine z_pP 9 rfl (fpX11_71 _) dX11_load_58 (sx_0 j2.2.2.2.2.2.2.2.1.1) rfl (by omega) ?_
      refine z_aload_n dX11_load_61 rfl ?_
      refine z_aload_n dX11_load_62 rfl ?_
      refine z_pP 10 rfl (fpX11_75 _) dX11_load_63 (sx_0 j2.2.2.2.2.2.2.2.1.1) rfl (by omega) ?_
      refine z_aload_n dX11_load_66 rfl ?_
      try dsimp only [zs0, zsI, zsP, zsN, zsJ, zsS, zst2, Nat.reduceAdd]
      refine z_callV mlX11_105 dX11_load_67 (sx_0 j2.2.2.2.2.2.2.2.1.1) (av := _) rfl rfl (Nat.le_of_ble_eq_true rfl) (c_forgetAll _ j2.2.2.2.2.2.2.2.1.1 s t (bA_ld j2 p2)) (Nat.le_refl _) (Nat.le_refl _) (by first | exact Nat.le_refl _ | exact le.1) (by first | exact Nat.le_refl _ | exact le.2) ?_
      rintro _ m3 ⟨rfl, e3⟩
      have j3 : cJ m3 E ((tLoad (m 2) c0 n).2.2.1, w1, q1, n1) (fun _ => 1) s t a cap a2 cap2 ka kcap b bcap := by rw [e3]; exact cJ_ld j2 p2 c2 l2 o2 hI1 hfl
      refine z_aload_n dX11_load_70 rfl ?_
      refine z_aload_n dX11_load_71 rfl ?_
      refine z_gP 9 rfl (r := s) flX11_71 dX11_load_72 (sx_0 j3.2.2.2.2.2.2.2.1.1) rfl (j3.1.1.2.2.2.2.2.2.2.2.2.1) (by omega) ?_
      refine z_gIv 14 rfl flX11_108 dX11_load_75 (sx_T j3.2.2.2.2.2.2.2.1.1 (cJ_t j3)).1 rfl j3.2.1.2.1.1 ?_
      refine z_callV mlX11_111 dX11_load_78 (sx_0 j3.2.2.2.2.2.2.2.1.1) (av := [_]) rfl rfl (Nat.le_of_ble_eq_true rfl) (c_answer _ (sx_0 j3.2.2.2.2.2.2.2.1.1) _) (Nat.le_refl _) (Nat.le_refl _) (by first | exact Nat.le_refl _ | exact le.1) (by first | exact Nat.le_refl _ | exact le.2) ?_
      rintro _ _ ⟨rfl, rfl⟩
      refine z_iret dX11_load_81 rfl rfl ?_
      rw [es]
      have e4 : ∀ x k : Int, x ≠ 0 → x ≠ 6 → x ≠ 8 → x ≠ 14 → m3 x k = m2 x k := fun x k q0 q6 q8 q14 => (congrFun (congrFun e3 x) k).trans ((fgA_o (by omega) (by omega) (by omega) (by omega)).trans ((zu_a q0).trans (zu_a q0)))
      exact ⟨congrArg (fun z => some (zI z)) (by rw [if_pos rfl]; exact hfl.1), fun h => absurd h (by decide), fun h => absurd h (by decide), fun _ => ⟨_, rfl, cLd_st j3 (fun x k q => ((e4 x k (by omega) (by omega) (by omega) (by omega)).trans (fRB_at f3 (by omega) (by omega))).trans (b1 x k (by omega))) (((e4 1 1 (by omega) (by omega) (by omega) (by omega)).trans (fRB_at f3 (by omega) (by omega))).trans t1) (((e4 1 8 (by omega) (by omega) (by omega) (by omega)).trans (fRT_at f2 (by omega) (by omega))).trans g1) (((e4 1 9 (by omega) (by omega) (by omega) (by omega)).trans (fRT_at f2 (by omega) (by omega))).trans g2) _, (zu_a (by decide)).trans (by rw [e3]; rfl)⟩⟩
    · have hz : (tLoad (m 2) c0 n).1 ≠ 0 := hz
      have j2 := cJ_rb j1 f2 p2
      have es : sLoad (m 2) c0 (m 1 1) n = 9 := by unfold sLoad; rw [if_neg (not_not_intro h5), if_pos hz]
      refine z_if_ne (tgt := 48) dX11_load_38 rfl (fun h => absurd h (by decide)) (fun h38 => ?_)
      refine z_aload_n dX11_load_41 rfl ?_
      refine z_bipush dX11_load_42 rfl (by decide) ?_
      refine z_callV mlX11_93 dX11_load_44 (sx_0 j2.2.2.2.2.2.2.2.1.1) (av := [_]) rfl rfl (Nat.le_of_ble_eq_true rfl) (c_refuse _ (sx_0 j2.2.2.2.2.2.2.2.1.1) _) (Nat.le_refl _) (Nat.le_refl _) (by first | exact Nat.le_refl _ | exact le.1) (by first | exact Nat.le_refl _ | exact le.2) ?_
      rintro _ _ ⟨rfl, rfl⟩
      refine z_iret dX11_load_47 rfl rfl ?_
      rw [es]
      exact ⟨by rw [if_neg (by decide)], fun h => absurd h (by decide), fun _ => cLd_st j2 (fun x k q => (fRB_at f2 (by omega) (by omega)).trans (b1 x k (by omega))) ((fRB_at f2 (by omega) (by omega)).trans t1) e8 e9 _, fun h => absurd h (by decide)⟩
  · refine z_aload_n dX11_load_8 rfl ?_
    refine z_iconst dX11_load_9 (by decide) ?_
    refine z_callV mlX11_93 dX11_load_10 (sx_0 hJ.2.2.2.2.2.2.2.1.1) (av := [_]) rfl rfl (Nat.le_of_ble_eq_true rfl) (c_refuse _ (sx_0 hJ.2.2.2.2.2.2.2.1.1) _) (Nat.le_refl _) (Nat.le_refl _) (by first | exact Nat.le_refl _ | exact le.1) (by first | exact Nat.le_refl _ | exact le.2) ?_
    rintro _ _ ⟨rfl, rfl⟩
    refine z_iret dX11_load_13 rfl rfl ?_
    rw [show sLoad (m 2) c0 (m 1 1) n = 1 from by unfold sLoad; rw [if_pos h5]]
    exact ⟨by rw [if_neg (by decide)], fun _ => cLd_st hJ (fun _ _ _ => rfl) rfl rfl rfl _, fun h => absurd h (by decide), fun h => absurd h (by decide)⟩

theorem p_pairs (d : Nat) {E : zE} {m : zM} (T : zT) (X : Int → Int) (t s a cap a2 cap2 ka kcap b bcap : Int) (hJ : cJ m E T X t s a cap a2 cap2 ka kcap b bcap) (n : Int) : ∃ E1 : zE, (E.2.1 ≤ E1.2.1 ∧ E.2.2 ≤ E1.2.2) ∧ EB E1 ∧ zR zX11_pairs (d + 16) [zP 0, zI n] m E E1 (fun r m' => r = some (zI (if sPrs (m 2) T (m 1 1) n = 0 then tWh T (tPrs (m 2) T n).2.2.1 else -1)) ∧ (sPrs (m 2) T (m 1 1) n = 1 → cLd m m' E1 T X 1 (m 1 1) (m 1 8) (m 1 9)) ∧ (sPrs (m 2) T (m 1 1) n ≠ 1 → cLd m m' E1 T X (sPrs (m 2) T (m 1 1) n) 0 (tPrs (m 2) T n).1 (if (tPrs (m 2) T n).1 ≠ 0 then (tPrs (m 2) T n).2.1 else -1))) := by
  have htt := cJ_t hJ
  have hln := (tA_l hJ.2.2.2.2.2.2.2.2.1).1
  have hni := nT_i hJ.2.2.2.2.2.2.2.2.1
  have hts := hJ.1.2.2.2.2.2.2.1
  have htp := hJ.1.2.2.2.2.2.2.2
  by_cases hc0 : sPrs (m 2) T (m 1 1) n = 0
  · have hsp := sp_0 hc0
    have le := pE_le E T cap
    refine ⟨pE E T cap, le, EB_p hJ T, ?_⟩
    refine zR_go [zP 0, zI n, zN] (by decide +kernel) (Nat.le_of_ble_eq_true rfl) rfl rfl ?_
    refine z_aload_n dX11_pairs_0 rfl ?_
    refine z_iload_n dX11_pairs_1 rfl ?_
    refine z_callV mlX11_89 dX11_pairs_2 (sx_0 hJ.2.2.2.2.2.2.2.1.1) (av := [_]) rfl rfl (Nat.le_of_ble_eq_true rfl) (c_isOnTape _ T X t s a cap a2 cap2 ka kcap b bcap hJ n) (Nat.le_refl _) (Nat.le_refl _) (by first | exact Nat.le_refl _ | exact le.1) (by first | exact Nat.le_refl _ | exact le.2) ?_
    rintro _ _ ⟨rfl, rfl⟩
    refine z_ifz_ne (tgt := 14) dX11_pairs_5 rfl (fun h5 => ?_) (fun h => absurd hsp.1 h)
    refine z_aload_n dX11_pairs_14 rfl ?_
    refine z_gP 0 rfl (r := 1) flX11_10 dX11_pairs_15 (sx_0 hJ.2.2.2.2.2.2.2.1.1) rfl (hJ.1.1.1) (by omega) ?_
    refine z_iload_n dX11_pairs_18 rfl ?_
    refine z_iconst dX11_pairs_19 (by decide) ?_
    refine z_callV mlX11_97 dX11_pairs_20 (sx_K hJ.2.2.2.2.2.2.2.1.1).1 (av := [_, _]) rfl rfl (Nat.le_of_ble_eq_true rfl) (c_tbegin _ (sx_K hJ.2.2.2.2.2.2.2.1.1) hJ.1.2.1 n 1 (Or.inr rfl) (by omega) (by omega) (by omega)) (Nat.le_refl _) (Nat.le_refl _) (by first | exact Nat.le_refl _ | exact le.1) (by first | exact Nat.le_refl _ | exact le.2) ?_
    rintro _ m1 ⟨rfl, f1, k1, a1, t1, g1, g2⟩
    have b1 : ∀ x k : Int, (x ≠ 1 ∨ k < 1) → m1 x k = m x k := fun x k q => f1 x k (by simp [fBg]) (by simp [fBg]; omega)
    have j1 := cJ_loc1 hJ (m' := m1) (by omega) (fun x k q => b1 x k (by omega))
    refine z_aload_n dX11_pairs_23 rfl ?_
    refine z_gP 2 rfl (r := 4) flX11_26 dX11_pairs_24 (sx_0 j1.2.2.2.2.2.2.2.1.1) rfl (j1.1.1.2.2.1) (by omega) ?_
    refine z_aload_n dX11_pairs_27 rfl ?_
    refine z_gP 0 rfl (r := 1) flX11_10 dX11_pairs_28 (sx_0 j1.2.2.2.2.2.2.2.1.1) rfl (j1.1.1.1) (by omega) ?_
    refine z_aload_n dX11_pairs_31 rfl ?_
    refine z_gP 9 rfl (r := t) flX11_71 dX11_pairs_32 (sx_0 j1.2.2.2.2.2.2.2.1.1) rfl (j1.1.1.2.2.2.2.2.2.2.2.2.1) (by omega) ?_
    refine z_callV mlX11_114 dX11_pairs_35 (sx_4 j1.2.2.2.2.2.2.2.1.1) (av := [_, _]) rfl rfl (Nat.le_of_ble_eq_true rfl) (c_readPairs _ t (by omega) (sx_K j1.2.2.2.2.2.2.2.1.1) (sx_4 j1.2.2.2.2.2.2.2.1.1) (sx_5 j1.2.2.2.2.2.2.2.1.1) (sx_T j1.2.2.2.2.2.2.2.1.1 (cJ_t j1)) (mV (m 2) n, n, 1) T.1 T.2.1 T.2.2.1 T.2.2.2 (wfD_of (tA_w j1.2.2.2.2.2.2.2.2.1)) (tA_l j1.2.2.2.2.2.2.2.2.1) _ ⟨k1, a1, j1.1.2.2.2.2.1, j1.2.1.1, j1.2.1.2.1, j1.1.2.2.1⟩) (Nat.le_refl _) (Nat.le_refl _) (by first | exact Nat.le_refl _ | exact le.1) (by first | exact Nat.le_refl _ | exact le.2) ?_
    rintro _ m2 (⟨hz, rfl, f2, r2, l2⟩ | ⟨hz, rfl, f2, e8, e9⟩)
    · have hz : (tPrs (m 2) T n).1 = 0 := hz
      have f3 := zfr_sub (F' := fLB) f2 (fun q hq => List.mem_cons_of_mem _ (List.mem_cons_of_mem _ hq))
      have j2 := cJ_lr j1 f3
      have l2 : lP m2 (tPrs (m 2) T n).2.2.1 (tPrs (m 2) T n).2.2.2.1 T.2.2.2 := l2
      have htl := told_iff l2 hln.1
      have fr1 : ∀ a k : Int, (a = 2 ∨ (37 ≤ a ∧ a ≤ 38) ∨ (95 ≤ a ∧ a < 121)) → m2 a k = m a k := fun x k q => (fLB_at f3 (by omega) (by omega)).trans (b1 x k (by omega))
      refine z_if_ne (tgt := 48) dX11_pairs_38 rfl (fun h38 => ?_) (fun h => absurd (by decide) h)
      refine z_aload_n dX11_pairs_48 rfl ?_
      refine z_gP 2 rfl (r := 4) flX11_26 dX11_pairs_49 (sx_0 j2.2.2.2.2.2.2.2.1.1) rfl (j2.1.1.2.2.1) (by omega) ?_
      have hfull := told_yes l2 htl (hsp.2.2 hz)
      refine z_gIv 2 rfl flX11_117 dX11_pairs_52 (sx_4 j2.2.2.2.2.2.2.2.1.1) rfl l2.2.1 ?_
      refine z_aload_n dX11_pairs_55 rfl ?_
      refine z_gP 9 rfl (r := t) flX11_71 dX11_pairs_56 (sx_0 j2.2.2.2.2.2.2.2.1.1) rfl (j2.1.1.2.2.2.2.2.2.2.2.2.1) (by omega) ?_
      refine z_callV mlX11_120 dX11_pairs_59 (sx_T j2.2.2.2.2.2.2.2.1.1 (cJ_t j2)).1 (av := _) rfl rfl (Nat.le_of_ble_eq_true rfl) (c_allLetters _ t (cJ_t0 j2) (sx_T j2.2.2.2.2.2.2.2.1.1 (cJ_t j2)) (j2.1.2.2.2.2.1) T.2.2.2 (tA_l j2.2.2.2.2.2.2.2.2.1).1 (j2.2.1.2.1.1)) (Nat.le_refl _) (Nat.le_refl _) (by first | exact Nat.le_refl _ | exact le.1) (by first | exact Nat.le_refl _ | exact le.2) ?_
      rintro _ _ ⟨rfl, rfl⟩
      refine z_icmp_eq (tgt := 71) dX11_pairs_62 rfl (fun h62 => ?_) (fun h => absurd hfull h)
      refine z_aload_n dX11_pairs_71 rfl ?_
      refine z_callV mlX11_124 dX11_pairs_72 (sx_0 j2.2.2.2.2.2.2.2.1.1) (av := _) rfl rfl (Nat.le_of_ble_eq_true rfl) (c_kPx _ T X _ _ _ _ _ _ _ _ _ _ j2) (by first | exact Nat.le_refl _ | exact le.1) (by first | exact Nat.le_refl _ | exact le.2) (Nat.le_refl _) (Nat.le_refl _) ?_
      rintro _ m3 ⟨rfl, j3, h5_, q3, _⟩
      have z3 := j3.2.2.2.1.2.2.2.1 h5_
      refine z_aload_n dX11_pairs_75 rfl ?_
      refine z_gP 2 rfl (r := 4) flX11_26 dX11_pairs_76 (sx_0 j3.2.2.2.2.2.2.2.1.1) rfl (j3.1.1.2.2.1) (by omega) ?_
      refine z_gJv 1 rfl flX11_128 dX11_pairs_79 (sx_4 j3.2.2.2.2.2.2.2.1.1) rfl ((q3 4 1 (by omega)).trans l2.1) ?_
      refine z_callV mlX11_132 dX11_pairs_82 (sx_8 j3.2.2.2.2.2.2.2.1.1) (av := [_]) rfl rfl (Nat.le_of_ble_eq_true rfl) (c_find _ 8 _ _ (sx_8 j3.2.2.2.2.2.2.2.1.1) j3.2.2.2.2.2.2.2.1.2.1.1 (by have := bE_pos j3.2.2.2.2.2.2.2.1; omega) z3.2.1.1 (tPairs T).length z3.2.1.2.2.1 (prs_cap hJ.2.2.2.2.2.2.2.2.1 z3.2.2) (prs_len hJ.2.2.2.2.2.2.2.2.1) (rwN T) (fun t ht => (z3.2.1.2.2.2.2.2.2 t _ (tMt_k ht)).1) (rw_lt hJ.2.2.2.2.2.2.2.2.1) _) (Nat.le_refl _) (Nat.le_refl _) (by first | exact Nat.le_refl _ | exact le.1) (by first | exact Nat.le_refl _ | exact le.2) ?_
      rintro _ _ ⟨x, rfl, rfl, hx⟩
      have hx2 : x = tWh T (tPrs (m 2) T n).2.2.1 := find_ok hJ.2.2.2.2.2.2.2.2.1 (told_full hJ.2.2.2.2.2.2.2.2.1 l2 hz (htl.mp (Int.ofNat.inj hfull))) hx
      have hx0 : 0 ≤ x := find_nn hJ.2.2.2.2.2.2.2.2.1 (told_full hJ.2.2.2.2.2.2.2.2.1 l2 hz (htl.mp (Int.ofNat.inj hfull))) hx
      refine z_ist 2 dX11_pairs_85 rfl (Nat.le_of_ble_eq_true rfl) ?_
      refine z_iload_n dX11_pairs_86 rfl ?_
      try dsimp only [zs0, zsI, zsP, zsN, zsJ, zsS, zst2, Nat.reduceAdd]
      refine z_if_ge (tgt := 98) dX11_pairs_87 rfl (fun h87 => ?_) (fun h => absurd hx0 h)
      refine z_aload_n dX11_pairs_98 rfl ?_
      refine z_iload_n dX11_pairs_99 rfl ?_
      refine z_callV mlX11_111 dX11_pairs_100 (sx_0 j3.2.2.2.2.2.2.2.1.1) (av := [_]) rfl rfl (Nat.le_of_ble_eq_true rfl) (c_answer _ (sx_0 j3.2.2.2.2.2.2.2.1.1) _) (Nat.le_refl _) (Nat.le_refl _) (by first | exact Nat.le_refl _ | exact le.1) (by first | exact Nat.le_refl _ | exact le.2) ?_
      rintro _ _ ⟨rfl, rfl⟩
      refine z_iret dX11_pairs_103 rfl rfl ?_
      rw [hc0, if_pos rfl, show (if (tPrs (m 2) T n).1 ≠ 0 then (tPrs (m 2) T n).2.1 else -1) = -1 from if_neg (not_not_intro hz), show (tPrs (m 2) T n).1 = 0 from hz]
      exact ⟨congrArg (fun z => some (zI z)) hx2, fun h => absurd h (by decide), fun _ => cLd_st j3 (fun x k q => (q3 x k (by omega)).trans (fr1 x k q)) ((q3 1 1 (by omega)).trans ((fLB_at f3 (by omega) (by omega)).trans t1)) ((q3 1 8 (by omega)).trans ((fL_a5 f2 (by omega) (by omega)).trans g1)) ((q3 1 9 (by omega)).trans ((fL_a5 f2 (by omega) (by omega)).trans g2)) _⟩
    · have hz : (tPrs (m 2) T n).1 ≠ 0 := hz
      exact absurd hc0 (by unfold sPrs; rw [if_neg (not_not_intro h5), if_pos hz]; decide)
  refine ⟨E, ⟨Nat.le_refl _, Nat.le_refl _⟩, EB_e hJ, ?_⟩
  refine zR_go [zP 0, zI n, zN] (by decide +kernel) (Nat.le_of_ble_eq_true rfl) rfl rfl ?_
  refine z_aload_n dX11_pairs_0 rfl ?_
  refine z_iload_n dX11_pairs_1 rfl ?_
  refine z_callV mlX11_89 dX11_pairs_2 (sx_0 hJ.2.2.2.2.2.2.2.1.1) (av := [_]) rfl rfl (Nat.le_of_ble_eq_true rfl) (c_isOnTape _ T X t s a cap a2 cap2 ka kcap b bcap hJ n) (Nat.le_refl _) (Nat.le_refl _) (by first | exact Nat.le_refl _ | exact le.1) (by first | exact Nat.le_refl _ | exact le.2) ?_
  rintro _ _ ⟨rfl, rfl⟩
  refine z_ifz_ne (tgt := 14) dX11_pairs_5 rfl (fun h5 => ?_) (fun h5 => ?_)
  · refine z_aload_n dX11_pairs_14 rfl ?_
    refine z_gP 0 rfl (r := 1) flX11_10 dX11_pairs_15 (sx_0 hJ.2.2.2.2.2.2.2.1.1) rfl (hJ.1.1.1) (by omega) ?_
    refine z_iload_n dX11_pairs_18 rfl ?_
    refine z_iconst dX11_pairs_19 (by decide) ?_
    refine z_callV mlX11_97 dX11_pairs_20 (sx_K hJ.2.2.2.2.2.2.2.1.1).1 (av := [_, _]) rfl rfl (Nat.le_of_ble_eq_true rfl) (c_tbegin _ (sx_K hJ.2.2.2.2.2.2.2.1.1) hJ.1.2.1 n 1 (Or.inr rfl) (by omega) (by omega) (by omega)) (Nat.le_refl _) (Nat.le_refl _) (by first | exact Nat.le_refl _ | exact le.1) (by first | exact Nat.le_refl _ | exact le.2) ?_
    rintro _ m1 ⟨rfl, f1, k1, a1, t1, g1, g2⟩
    have b1 : ∀ x k : Int, (x ≠ 1 ∨ k < 1) → m1 x k = m x k := fun x k q => f1 x k (by simp [fBg]) (by simp [fBg]; omega)
    have j1 := cJ_loc1 hJ (m' := m1) (by omega) (fun x k q => b1 x k (by omega))
    refine z_aload_n dX11_pairs_23 rfl ?_
    refine z_gP 2 rfl (r := 4) flX11_26 dX11_pairs_24 (sx_0 j1.2.2.2.2.2.2.2.1.1) rfl (j1.1.1.2.2.1) (by omega) ?_
    refine z_aload_n dX11_pairs_27 rfl ?_
    refine z_gP 0 rfl (r := 1) flX11_10 dX11_pairs_28 (sx_0 j1.2.2.2.2.2.2.2.1.1) rfl (j1.1.1.1) (by omega) ?_
    refine z_aload_n dX11_pairs_31 rfl ?_
    refine z_gP 9 rfl (r := t) flX11_71 dX11_pairs_32 (sx_0 j1.2.2.2.2.2.2.2.1.1) rfl (j1.1.1.2.2.2.2.2.2.2.2.2.1) (by omega) ?_
    refine z_callV mlX11_114 dX11_pairs_35 (sx_4 j1.2.2.2.2.2.2.2.1.1) (av := [_, _]) rfl rfl (Nat.le_of_ble_eq_true rfl) (c_readPairs _ t (by omega) (sx_K j1.2.2.2.2.2.2.2.1.1) (sx_4 j1.2.2.2.2.2.2.2.1.1) (sx_5 j1.2.2.2.2.2.2.2.1.1) (sx_T j1.2.2.2.2.2.2.2.1.1 (cJ_t j1)) (mV (m 2) n, n, 1) T.1 T.2.1 T.2.2.1 T.2.2.2 (wfD_of (tA_w j1.2.2.2.2.2.2.2.2.1)) (tA_l j1.2.2.2.2.2.2.2.2.1) _ ⟨k1, a1, j1.1.2.2.2.2.1, j1.2.1.1, j1.2.1.2.1, j1.1.2.2.1⟩) (Nat.le_refl _) (Nat.le_refl _) (by first | exact Nat.le_refl _ | exact le.1) (by first | exact Nat.le_refl _ | exact le.2) ?_
    rintro _ m2 (⟨hz, rfl, f2, r2, l2⟩ | ⟨hz, rfl, f2, e8, e9⟩)
    · have hz : (tPrs (m 2) T n).1 = 0 := hz
      have f3 := zfr_sub (F' := fLB) f2 (fun q hq => List.mem_cons_of_mem _ (List.mem_cons_of_mem _ hq))
      have j2 := cJ_lr j1 f3
      have l2 : lP m2 (tPrs (m 2) T n).2.2.1 (tPrs (m 2) T n).2.2.2.1 T.2.2.2 := l2
      have htl := told_iff l2 hln.1
      have fr1 : ∀ a k : Int, (a = 2 ∨ (37 ≤ a ∧ a ≤ 38) ∨ (95 ≤ a ∧ a < 121)) → m2 a k = m a k := fun x k q => (fLB_at f3 (by omega) (by omega)).trans (b1 x k (by omega))
      refine z_if_ne (tgt := 48) dX11_pairs_38 rfl (fun h38 => ?_) (fun h => absurd (by decide) h)
      refine z_aload_n dX11_pairs_48 rfl ?_
      refine z_gP 2 rfl (r := 4) flX11_26 dX11_pairs_49 (sx_0 j2.2.2.2.2.2.2.2.1.1) rfl (j2.1.1.2.2.1) (by omega) ?_
      refine z_gIv 2 rfl flX11_117 dX11_pairs_52 (sx_4 j2.2.2.2.2.2.2.2.1.1) rfl l2.2.1 ?_
      refine z_aload_n dX11_pairs_55 rfl ?_
      refine z_gP 9 rfl (r := t) flX11_71 dX11_pairs_56 (sx_0 j2.2.2.2.2.2.2.2.1.1) rfl (j2.1.1.2.2.2.2.2.2.2.2.2.1) (by omega) ?_
      refine z_callV mlX11_120 dX11_pairs_59 (sx_T j2.2.2.2.2.2.2.2.1.1 (cJ_t j2)).1 (av := _) rfl rfl (Nat.le_of_ble_eq_true rfl) (c_allLetters _ t (cJ_t0 j2) (sx_T j2.2.2.2.2.2.2.2.1.1 (cJ_t j2)) (j2.1.2.2.2.2.1) T.2.2.2 (tA_l j2.2.2.2.2.2.2.2.2.1).1 (j2.2.1.2.1.1)) (Nat.le_refl _) (Nat.le_refl _) (by first | exact Nat.le_refl _ | exact le.1) (by first | exact Nat.le_refl _ | exact le.2) ?_
      rintro _ _ ⟨rfl, rfl⟩
      refine z_icmp_eq (tgt := 71) dX11_pairs_62 rfl (fun h => absurd h (fun h => hc0 (by unfold sPrs; rw [if_neg (not_not_intro h5), if_neg (not_not_intro hz), if_neg (told_is l2 htl h)]))) (fun h62 => ?_)
      refine z_aload_n dX11_pairs_65 rfl ?_
      refine z_iconst dX11_pairs_66 (by decide) ?_
      refine z_callV mlX11_93 dX11_pairs_67 (sx_0 j2.2.2.2.2.2.2.2.1.1) (av := [_]) rfl rfl (Nat.le_of_ble_eq_true rfl) (c_refuse _ (sx_0 j2.2.2.2.2.2.2.2.1.1) _) (Nat.le_refl _) (Nat.le_refl _) (by first | exact Nat.le_refl _ | exact le.1) (by first | exact Nat.le_refl _ | exact le.2) ?_
      rintro _ _ ⟨rfl, rfl⟩
      refine z_iret dX11_pairs_70 rfl rfl ?_
      rw [show sPrs (m 2) T (m 1 1) n = 5 from by unfold sPrs; rw [if_neg (not_not_intro h5), if_neg (not_not_intro hz), if_pos (told_no l2 htl h62)], show (if (tPrs (m 2) T n).1 ≠ 0 then (tPrs (m 2) T n).2.1 else -1) = -1 from if_neg (not_not_intro hz), show (tPrs (m 2) T n).1 = 0 from hz]
      exact ⟨by rw [if_neg (by decide)], fun h => absurd h (by decide), fun _ => cLd_st j2 (fun x k q => (fLB_at f3 (by omega) (by omega)).trans (b1 x k (by omega))) ((fLB_at f3 (by omega) (by omega)).trans t1) ((fL_a5 f2 (by omega) (by omega)).trans g1) ((fL_a5 f2 (by omega) (by omega)).trans g2) _⟩
    · have hz : (tPrs (m 2) T n).1 ≠ 0 := hz
      have j2 := cJ_lr j1 f2
      refine z_if_ne (tgt := 48) dX11_pairs_38 rfl (fun h => absurd h (by decide)) (fun h38 => ?_)
      refine z_aload_n dX11_pairs_41 rfl ?_
      refine z_bipush dX11_pairs_42 rfl (by decide) ?_
      refine z_callV mlX11_93 dX11_pairs_44 (sx_0 j2.2.2.2.2.2.2.2.1.1) (av := [_]) rfl rfl (Nat.le_of_ble_eq_true rfl) (c_refuse _ (sx_0 j2.2.2.2.2.2.2.2.1.1) _) (Nat.le_refl _) (Nat.le_refl _) (by first | exact Nat.le_refl _ | exact le.1) (by first | exact Nat.le_refl _ | exact le.2) ?_
      rintro _ _ ⟨rfl, rfl⟩
      refine z_iret dX11_pairs_47 rfl rfl ?_
      rw [show sPrs (m 2) T (m 1 1) n = 9 from by unfold sPrs; rw [if_neg (not_not_intro h5), if_pos hz], show (if (tPrs (m 2) T n).1 ≠ 0 then (tPrs (m 2) T n).2.1 else -1) = (tPrs (m 2) T n).2.1 from if_pos hz]
      exact ⟨by rw [if_neg (by decide)], fun h => absurd h (by decide), fun _ => cLd_st j2 (fun x k q => (fLB_at f2 (by omega) (by omega)).trans (b1 x k (by omega))) ((fLB_at f2 (by omega) (by omega)).trans t1) e8 e9 _⟩
  · refine z_aload_n dX11_pairs_8 rfl ?_
    refine z_iconst dX11_pairs_9 (by decide) ?_
    refine z_callV mlX11_93 dX11_pairs_10 (sx_0 hJ.2.2.2.2.2.2.2.1.1) (av := [_]) rfl rfl (Nat.le_of_ble_eq_true rfl) (c_refuse _ (sx_0 hJ.2.2.2.2.2.2.2.1.1) _) (Nat.le_refl _) (Nat.le_refl _) (by first | exact Nat.le_refl _ | exact le.1) (by first | exact Nat.le_refl _ | exact le.2) ?_
    rintro _ _ ⟨rfl, rfl⟩
    refine z_iret dX11_pairs_13 rfl rfl ?_
    rw [show sPrs (m 2) T (m 1 1) n = 1 from by unfold sPrs; rw [if_pos h5]]
    exact ⟨by rw [if_neg (by decide)], fun _ => cLd_st hJ (fun _ _ _ => rfl) rfl rfl rfl _, fun h => absurd rfl h⟩

theorem p_lines (d : Nat) {E : zE} {m : zM} (T : zT) (X : Int → Int) (t s a cap a2 cap2 ka kcap b bcap : Int) (hJ : cJ m E T X t s a cap a2 cap2 ka kcap b bcap) (n : Int) (td : Int → Int) : ∃ E1 : zE, (E.2.1 ≤ E1.2.1 ∧ E.2.2 ≤ E1.2.2) ∧ EB E1 ∧ zR zX11_lines (d + 16) [zP 0, zI n] m E E1 (fun r m' => r = some (zI (if sLns (m 2) T td (m 1 1) n = 0 then tIx T (tLc T (tLns (m 2) T td n).2.2.1 (tLns (m 2) T td n).2.2.2.1.toNat) else -1)) ∧ (sLns (m 2) T td (m 1 1) n = 1 → cLd m m' E1 T X 1 (m 1 1) (m 1 8) (m 1 9)) ∧ (sLns (m 2) T td (m 1 1) n ≠ 1 → cLd m m' E1 T X (sLns (m 2) T td (m 1 1) n) 0 (tLns (m 2) T td n).1 (if (tLns (m 2) T td n).1 ≠ 0 then (tLns (m 2) T td n).2.1 else -1))) := by
  have htt := cJ_t hJ
  have hln := (tA_l hJ.2.2.2.2.2.2.2.2.1).1
  have hni := nT_i hJ.2.2.2.2.2.2.2.2.1
  have hts := hJ.1.2.2.2.2.2.2.1
  have htp := hJ.1.2.2.2.2.2.2.2
  by_cases hc0 : ((0 ≤ n ∧ n ≤ m 1 1) ∧ (tLns (m 2) T td n).1 = 0 ∧ (tLns (m 2) T td n).2.2.2.1 = T.2.2.2 / 2)
  · have le := dE_le E T cap kcap bcap
    refine ⟨dE E T cap kcap bcap, le, EB_d hJ, ?_⟩
    refine zR_go [zP 0, zI n, zN] (by decide +kernel) (Nat.le_of_ble_eq_true rfl) rfl rfl ?_
    refine z_aload_n dX11_lines_0 rfl ?_
    refine z_iload_n dX11_lines_1 rfl ?_
    refine z_callV mlX11_89 dX11_lines_2 (sx_0 hJ.2.2.2.2.2.2.2.1.1) (av := [_]) rfl rfl (Nat.le_of_ble_eq_true rfl) (c_isOnTape _ T X t s a cap a2 cap2 ka kcap b bcap hJ n) (Nat.le_refl _) (Nat.le_refl _) (by first | exact Nat.le_refl _ | exact le.1) (by first | exact Nat.le_refl _ | exact le.2) ?_
    rintro _ _ ⟨rfl, rfl⟩
    refine z_ifz_ne (tgt := 14) dX11_lines_5 rfl (fun h5 => ?_) (fun h => absurd hc0.1 h)
    refine z_aload_n dX11_lines_14 rfl ?_
    refine z_gP 0 rfl (r := 1) flX11_10 dX11_lines_15 (sx_0 hJ.2.2.2.2.2.2.2.1.1) rfl (hJ.1.1.1) (by omega) ?_
    refine z_iload_n dX11_lines_18 rfl ?_
    refine z_iconst dX11_lines_19 (by decide) ?_
    refine z_callV mlX11_97 dX11_lines_20 (sx_K hJ.2.2.2.2.2.2.2.1.1).1 (av := [_, _]) rfl rfl (Nat.le_of_ble_eq_true rfl) (c_tbegin _ (sx_K hJ.2.2.2.2.2.2.2.1.1) hJ.1.2.1 n 1 (Or.inr rfl) (by omega) (by omega) (by omega)) (Nat.le_refl _) (Nat.le_refl _) (by first | exact Nat.le_refl _ | exact le.1) (by first | exact Nat.le_refl _ | exact le.2) ?_
    rintro _ m1 ⟨rfl, f1, k1, a1, t1, g1, g2⟩
    have b1 : ∀ x k : Int, (x ≠ 1 ∨ k < 1) → m1 x k = m x k := fun x k q => f1 x k (by simp [fBg]) (by simp [fBg]; omega)
    have j1 := cJ_loc1 hJ (m' := m1) (by omega) (fun x k q => b1 x k (by omega))
    refine z_aload_n dX11_lines_23 rfl ?_
    refine z_gP 2 rfl (r := 4) flX11_26 dX11_lines_24 (sx_0 j1.2.2.2.2.2.2.2.1.1) rfl (j1.1.1.2.2.1) (by omega) ?_
    refine z_aload_n dX11_lines_27 rfl ?_
    refine z_gP 0 rfl (r := 1) flX11_10 dX11_lines_28 (sx_0 j1.2.2.2.2.2.2.2.1.1) rfl (j1.1.1.1) (by omega) ?_
    refine z_aload_n dX11_lines_31 rfl ?_
    refine z_gP 9 rfl (r := t) flX11_71 dX11_lines_32 (sx_0 j1.2.2.2.2.2.2.2.1.1) rfl (j1.1.1.2.2.2.2.2.2.2.2.2.1) (by omega) ?_
    refine z_callV mlX11_136 dX11_lines_35 (sx_4 j1.2.2.2.2.2.2.2.1.1) (av := [_, _]) rfl rfl (Nat.le_of_ble_eq_true rfl) (c_readLines _ t (by omega) (sx_K j1.2.2.2.2.2.2.2.1.1) (sx_4 j1.2.2.2.2.2.2.2.1.1) (sx_5 j1.2.2.2.2.2.2.2.1.1) (sx_T j1.2.2.2.2.2.2.2.1.1 (cJ_t j1)) (mV (m 2) n, n, 1) T.1 T.2.1 T.2.2.1 T.2.2.2 (wfD_of (tA_w j1.2.2.2.2.2.2.2.2.1)) (tA_l j1.2.2.2.2.2.2.2.2.1) (tA_w j1.2.2.2.2.2.2.2.2.1) _ td ⟨k1, a1, j1.1.2.2.2.2.1, j1.2.1.1, j1.2.1.2.1, j1.1.2.2.1⟩) (Nat.le_refl _) (Nat.le_refl _) (by first | exact Nat.le_refl _ | exact le.1) (by first | exact Nat.le_refl _ | exact le.2) ?_
    rintro _ m2 (⟨hz, rfl, f2, r2, l2⟩ | ⟨hz, rfl, f2, e8, e9⟩)
    · have hz : (tLns (m 2) T td n).1 = 0 := hz
      have f3 := zfr_sub (F' := fLB) f2 (fun q hq => List.mem_cons_of_mem _ (List.mem_cons_of_mem _ hq))
      have j2 := cJ_lr j1 f3
      have l2 : lQ m2 (tLns (m 2) T td n).2.2.1 (tLns (m 2) T td n).2.2.2.1 T.1 := l2
      have fr1 : ∀ a k : Int, (a = 2 ∨ (37 ≤ a ∧ a ≤ 38) ∨ (95 ≤ a ∧ a < 121)) → m2 a k = m a k := fun x k q => (fLB_at f3 (by omega) (by omega)).trans (b1 x k (by omega))
      refine z_if_ne (tgt := 48) dX11_lines_38 rfl (fun h38 => ?_) (fun h => absurd (by decide) h)
      refine z_aload_n dX11_lines_48 rfl ?_
      refine z_gP 2 rfl (r := 4) flX11_26 dX11_lines_49 (sx_0 j2.2.2.2.2.2.2.2.1.1) rfl (j2.1.1.2.2.1) (by omega) ?_
      refine z_gIv 3 rfl flX11_139 dX11_lines_52 (sx_4 j2.2.2.2.2.2.2.2.1.1) rfl l2.1 ?_
      refine z_aload_n dX11_lines_55 rfl ?_
      refine z_gP 9 rfl (r := t) flX11_71 dX11_lines_56 (sx_0 j2.2.2.2.2.2.2.2.1.1) rfl (j2.1.1.2.2.2.2.2.2.2.2.2.1) (by omega) ?_
      refine z_gIv 14 rfl flX11_108 dX11_lines_59 (sx_T j2.2.2.2.2.2.2.2.1.1 (cJ_t j2)).1 rfl (j2.2.1.2.1.1) ?_
      refine z_iconst dX11_lines_62 (by decide) ?_
      refine z_div dX11_lines_63 (by omega) (by omega) ?_
      refine z_icmp_eq (tgt := 73) dX11_lines_64 rfl (fun h64 => ?_) (fun h => absurd hc0.2.2 h)
      refine z_aload_n dX11_lines_73 rfl ?_
      refine z_callV mlX11_142 dX11_lines_74 (sx_0 j2.2.2.2.2.2.2.2.1.1) (av := _) rfl rfl (Nat.le_of_ble_eq_true rfl) (c_kDx _ T X _ _ _ _ _ _ _ _ _ _ j2) (by first | exact Nat.le_refl _ | exact le.1) (by first | exact Nat.le_refl _ | exact le.2) (Nat.le_refl _) (Nat.le_refl _) ?_
      rintro _ m3 ⟨rfl, ka1, kc1, b1_, bc1, j3, h9, q3⟩
      refine z_aload_n dX11_lines_77 rfl ?_
      refine z_gP 2 rfl (r := 4) flX11_26 dX11_lines_78 (sx_0 j3.2.2.2.2.2.2.2.1.1) rfl (j3.1.1.2.2.1) (by omega) ?_
      refine z_callV mlX11_146 dX11_lines_81 (sx_4 j3.2.2.2.2.2.2.2.1.1) (av := _) rfl rfl (Nat.le_of_ble_eq_true rfl) (c_sortedKey _ (sx_4 j3.2.2.2.2.2.2.2.1.1) (sx_5 j3.2.2.2.2.2.2.2.1.1) j3.1.2.2.1 T.1 (wfD_of (tA_w j3.2.2.2.2.2.2.2.2.1)) (tLns (m 2) T td n).2.2.1 (tLns (m 2) T td n).2.2.2.1 (lQ_q l2 q3)) (Nat.le_refl _) (Nat.le_refl _) (by first | exact Nat.le_refl _ | exact le.1) (by first | exact Nat.le_refl _ | exact le.2) ?_
      rintro _ m4 ⟨rfl, f4⟩
      have j4 := cJ_lr j3 (fL4_LB f4)
      have h94 : m4 14 19 = 1 := (fL4_a5 f4 (by omega) (by omega)).trans h9
      obtain ⟨⟨D, F, cc, z1, z2, z3⟩, z4⟩ := j4.2.2.2.2.2.1.2.2.2.2.2.2 h94
      have hul : (tLns (m 2) T td n).2.2.2.1.toNat = tH T := by unfold tH; rw [hc0.2.2]
      have hla := line_at (tA_w hJ.2.2.2.2.2.2.2.2.1) (tA_l hJ.2.2.2.2.2.2.2.2.1) (tA_n hJ.2.2.2.2.2.2.2.2.1) z1.1 z2 (td := (tLns (m 2) T td n).2.2.1) (fun i i0 i1 => (l2.2.2 i i0 (by omega)).2)
      have hcc := kT_cnt z3 ((tPairs T).map (tKy T)) (keys_F hJ.2.2.2.2.2.2.2.2.1 z2)
      rw [List.length_map] at hcc
      have hpl := prs_len hJ.2.2.2.2.2.2.2.2.1
      have hke := kEx_ok (x := lT T) ⟨by unfold lT; omega, by unfold lT; omega⟩
      have hkl := kEx_lt (x := lT T) ⟨by unfold lT; omega, by unfold lT; omega⟩
      have hDl := z1.1.2.2.2.2.1
      have hpc := prs_cap hJ.2.2.2.2.2.2.2.2.1 z4.2.2
      rw [hul]
      refine z_callV mlX11_150 dX11_lines_84 (sx_14 j4.2.2.2.2.2.2.2.1.1) (av := [_]) rfl rfl (Nat.le_of_ble_eq_true rfl) (c_dfind _ 14 b1_ bc1 (sx_14 j4.2.2.2.2.2.2.2.1.1) j4.2.2.2.2.2.2.2.1.2.2.2.2.1 (by have := bE_pos j4.2.2.2.2.2.2.2.1; omega) j4.2.2.2.2.2.1.2.2.2.2.1 (sx_15 j4.2.2.2.2.2.2.2.1.1) ka1 kc1 j4.2.2.2.2.2.2.2.1.2.2.2.1.1 j4.2.2.2.2.2.2.2.1.2.2.2.1.2 (by have := bE_pos j4.2.2.2.2.2.2.2.1; omega) j4.2.2.2.2.2.1.1.1 j4.2.2.2.2.2.1.2.2.1 j4.2.2.2.2.2.1.2.2.2.1 (kEx (lT T) 10 0) hke.1 z4.1 z4.2.1 F cc z3 (by have hll : lT T = ((tPairs T).length : Int) := rfl; omega) (sKey (tLns (m 2) T td n).2.2.1 (tH T)) (by have := hla.2; omega)) (Nat.le_refl _) (Nat.le_refl _) (by first | exact Nat.le_refl _ | exact le.1) (by first | exact Nat.le_refl _ | exact le.2) ?_
      rintro _ _ ⟨rfl, rfl⟩
      rw [hla.1]
      refine z_ist 2 dX11_lines_87 rfl (Nat.le_of_ble_eq_true rfl) ?_
      refine z_iload_n dX11_lines_88 rfl ?_
      try dsimp only [zs0, zsI, zsP, zsN, zsJ, zsS, zst2, Nat.reduceAdd]
      refine z_if_ge (tgt := 100) dX11_lines_89 rfl (fun h89 => ?_) (fun h89 => ?_)
      · refine z_aload_n dX11_lines_100 rfl ?_
        refine z_iload_n dX11_lines_101 rfl ?_
        refine z_callV mlX11_111 dX11_lines_102 (sx_0 j4.2.2.2.2.2.2.2.1.1) (av := [_]) rfl rfl (Nat.le_of_ble_eq_true rfl) (c_answer _ (sx_0 j4.2.2.2.2.2.2.2.1.1) _) (Nat.le_refl _) (Nat.le_refl _) (by first | exact Nat.le_refl _ | exact le.1) (by first | exact Nat.le_refl _ | exact le.2) ?_
        rintro _ _ ⟨rfl, rfl⟩
        refine z_iret dX11_lines_105 rfl rfl ?_
        rw [show sLns (m 2) T td (m 1 1) n = 0 from ln_0 hJ.2.2.2.2.2.2.2.2.1 h5 hz hc0.2.2 (by omega), if_pos rfl, show (if (tLns (m 2) T td n).1 ≠ 0 then (tLns (m 2) T td n).2.1 else -1) = -1 from if_neg (not_not_intro hz), show (tLns (m 2) T td n).1 = 0 from hz]
        exact ⟨rfl, fun h => absurd h (by decide), fun _ => cLd_st j4 (fun x k q => (fL4_a5 f4 (by omega) (by omega)).trans ((q3 x k (by omega)).trans (fr1 x k q))) ((fL4_a5 f4 (by omega) (by omega)).trans ((q3 1 1 (by omega)).trans ((fLB_at f3 (by omega) (by omega)).trans t1))) ((fL4_a5 f4 (by omega) (by omega)).trans ((q3 1 8 (by omega)).trans ((fL_a5 f2 (by omega) (by omega)).trans g1))) ((fL4_a5 f4 (by omega) (by omega)).trans ((q3 1 9 (by omega)).trans ((fL_a5 f2 (by omega) (by omega)).trans g2))) _⟩
      · refine z_aload_n dX11_lines_92 rfl ?_
        refine z_iconst dX11_lines_93 (by decide) ?_
        refine z_callV mlX11_93 dX11_lines_94 (sx_0 j4.2.2.2.2.2.2.2.1.1) (av := [_]) rfl rfl (Nat.le_of_ble_eq_true rfl) (c_refuse _ (sx_0 j4.2.2.2.2.2.2.2.1.1) _) (Nat.le_refl _) (Nat.le_refl _) (by first | exact Nat.le_refl _ | exact le.1) (by first | exact Nat.le_refl _ | exact le.2) ?_
        rintro _ _ ⟨rfl, rfl⟩
        refine z_goto (tgt := 105) dX11_lines_97 rfl ?_
        refine z_iret dX11_lines_105 rfl rfl ?_
        rw [show sLns (m 2) T td (m 1 1) n = 5 from ln_5 h5 hz hc0.2.2 hni (by omega), show (if (tLns (m 2) T td n).1 ≠ 0 then (tLns (m 2) T td n).2.1 else -1) = -1 from if_neg (not_not_intro hz), show (tLns (m 2) T td n).1 = 0 from hz]
        exact ⟨by rw [if_neg (by decide)], fun h => absurd h (by decide), fun _ => cLd_st j4 (fun x k q => (fL4_a5 f4 (by omega) (by omega)).trans ((q3 x k (by omega)).trans (fr1 x k q))) ((fL4_a5 f4 (by omega) (by omega)).trans ((q3 1 1 (by omega)).trans ((fLB_at f3 (by omega) (by omega)).trans t1))) ((fL4_a5 f4 (by omega) (by omega)).trans ((q3 1 8 (by omega)).trans ((fL_a5 f2 (by omega) (by omega)).trans g1))) ((fL4_a5 f4 (by omega) (by omega)).trans ((q3 1 9 (by omega)).trans ((fL_a5 f2 (by omega) (by omega)).trans g2))) _⟩
    · exact absurd hc0.2.1 hz
  refine ⟨E, ⟨Nat.le_refl _, Nat.le_refl _⟩, EB_e hJ, ?_⟩
  refine zR_go [zP 0, zI n, zN] (by decide +kernel) (Nat.le_of_ble_eq_true rfl) rfl rfl ?_
  refine z_aload_n dX11_lines_0 rfl ?_
  refine z_iload_n dX11_lines_1 rfl ?_
  refine z_callV mlX11_89 dX11_lines_2 (sx_0 hJ.2.2.2.2.2.2.2.1.1) (av := [_]) rfl rfl (Nat.le_of_ble_eq_true rfl) (c_isOnTape _ T X t s a cap a2 cap2 ka kcap b bcap hJ n) (Nat.le_refl _) (Nat.le_refl _) (by first | exact Nat.le_refl _ | exact le.1) (by first | exact Nat.le_refl _ | exact le.2) ?_
  rintro _ _ ⟨rfl, rfl⟩
  refine z_ifz_ne (tgt := 14) dX11_lines_5 rfl (fun h5 => ?_) (fun h5 => ?_)
  · refine z_aload_n dX11_lines_14 rfl ?_
    refine z_gP 0 rfl (r := 1) flX11_10 dX11_lines_15 (sx_0 hJ.2.2.2.2.2.2.2.1.1) rfl (hJ.1.1.1) (by omega) ?_
    refine z_iload_n dX11_lines_18 rfl ?_
    refine z_iconst dX11_lines_19 (by decide) ?_
    refine z_callV mlX11_97 dX11_lines_20 (sx_K hJ.2.2.2.2.2.2.2.1.1).1 (av := [_, _]) rfl rfl (Nat.le_of_ble_eq_true rfl) (c_tbegin _ (sx_K hJ.2.2.2.2.2.2.2.1.1) hJ.1.2.1 n 1 (Or.inr rfl) (by omega) (by omega) (by omega)) (Nat.le_refl _) (Nat.le_refl _) (by first | exact Nat.le_refl _ | exact le.1) (by first | exact Nat.le_refl _ | exact le.2) ?_
    rintro _ m1 ⟨rfl, f1, k1, a1, t1, g1, g2⟩
    have b1 : ∀ x k : Int, (x ≠ 1 ∨ k < 1) → m1 x k = m x k := fun x k q => f1 x k (by simp [fBg]) (by simp [fBg]; omega)
    have j1 := cJ_loc1 hJ (m' := m1) (by omega) (fun x k q => b1 x k (by omega))
    refine z_aload_n dX11_lines_23 rfl ?_
    refine z_gP 2 rfl (r := 4) flX11_26 dX11_lines_24 (sx_0 j1.2.2.2.2.2.2.2.1.1) rfl (j1.1.1.2.2.1) (by omega) ?_
    refine z_aload_n dX11_lines_27 rfl ?_
    refine z_gP 0 rfl (r := 1) flX11_10 dX11_lines_28 (sx_0 j1.2.2.2.2.2.2.2.1.1) rfl (j1.1.1.1) (by omega) ?_
    refine z_aload_n dX11_lines_31 rfl ?_
    refine z_gP 9 rfl (r := t) flX11_71 dX11_lines_32 (sx_0 j1.2.2.2.2.2.2.2.1.1) rfl (j1.1.1.2.2.2.2.2.2.2.2.2.1) (by omega) ?_
    refine z_callV mlX11_136 dX11_lines_35 (sx_4 j1.2.2.2.2.2.2.2.1.1) (av := [_, _]) rfl rfl (Nat.le_of_ble_eq_true rfl) (c_readLines _ t (by omega) (sx_K j1.2.2.2.2.2.2.2.1.1) (sx_4 j1.2.2.2.2.2.2.2.1.1) (sx_5 j1.2.2.2.2.2.2.2.1.1) (sx_T j1.2.2.2.2.2.2.2.1.1 (cJ_t j1)) (mV (m 2) n, n, 1) T.1 T.2.1 T.2.2.1 T.2.2.2 (wfD_of (tA_w j1.2.2.2.2.2.2.2.2.1)) (tA_l j1.2.2.2.2.2.2.2.2.1) (tA_w j1.2.2.2.2.2.2.2.2.1) _ td ⟨k1, a1, j1.1.2.2.2.2.1, j1.2.1.1, j1.2.1.2.1, j1.1.2.2.1⟩) (Nat.le_refl _) (Nat.le_refl _) (by first | exact Nat.le_refl _ | exact le.1) (by first | exact Nat.le_refl _ | exact le.2) ?_
    rintro _ m2 (⟨hz, rfl, f2, r2, l2⟩ | ⟨hz, rfl, f2, e8, e9⟩)
    · have hz : (tLns (m 2) T td n).1 = 0 := hz
      have f3 := zfr_sub (F' := fLB) f2 (fun q hq => List.mem_cons_of_mem _ (List.mem_cons_of_mem _ hq))
      have j2 := cJ_lr j1 f3
      have l2 : lQ m2 (tLns (m 2) T td n).2.2.1 (tLns (m 2) T td n).2.2.2.1 T.1 := l2
      have fr1 : ∀ a k : Int, (a = 2 ∨ (37 ≤ a ∧ a ≤ 38) ∨ (95 ≤ a ∧ a < 121)) → m2 a k = m a k := fun x k q => (fLB_at f3 (by omega) (by omega)).trans (b1 x k (by omega))
      refine z_if_ne (tgt := 48) dX11_lines_38 rfl (fun h38 => ?_) (fun h => absurd (by decide) h)
      refine z_aload_n dX11_lines_48 rfl ?_
      refine z_gP 2 rfl (r := 4) flX11_26 dX11_lines_49 (sx_0 j2.2.2.2.2.2.2.2.1.1) rfl (j2.1.1.2.2.1) (by omega) ?_
      refine z_gIv 3 rfl flX11_139 dX11_lines_52 (sx_4 j2.2.2.2.2.2.2.2.1.1) rfl l2.1 ?_
      refine z_aload_n dX11_lines_55 rfl ?_
      refine z_gP 9 rfl (r := t) flX11_71 dX11_lines_56 (sx_0 j2.2.2.2.2.2.2.2.1.1) rfl (j2.1.1.2.2.2.2.2.2.2.2.2.1) (by omega) ?_
      refine z_gIv 14 rfl flX11_108 dX11_lines_59 (sx_T j2.2.2.2.2.2.2.2.1.1 (cJ_t j2)).1 rfl (j2.2.1.2.1.1) ?_
      refine z_iconst dX11_lines_62 (by decide) ?_
      refine z_div dX11_lines_63 (by omega) (by omega) ?_
      refine z_icmp_eq (tgt := 73) dX11_lines_64 rfl (fun h => absurd h (fun h => hc0 ⟨h5, hz, h⟩)) (fun h64 => ?_)
      refine z_aload_n dX11_lines_67 rfl ?_
      refine z_iconst dX11_lines_68 (by decide) ?_
      refine z_callV mlX11_93 dX11_lines_69 (sx_0 j2.2.2.2.2.2.2.2.1.1) (av := [_]) rfl rfl (Nat.le_of_ble_eq_true rfl) (c_refuse _ (sx_0 j2.2.2.2.2.2.2.2.1.1) _) (Nat.le_refl _) (Nat.le_refl _) (by first | exact Nat.le_refl _ | exact le.1) (by first | exact Nat.le_refl _ | exact le.2) ?_
      rintro _ _ ⟨rfl, rfl⟩
      refine z_iret dX11_lines_72 rfl rfl ?_
      rw [show sLns (m 2) T td (m 1 1) n = 5 from by unfold sLns; rw [if_neg (not_not_intro h5), if_neg (not_not_intro hz), if_pos (by omega)], show (if (tLns (m 2) T td n).1 ≠ 0 then (tLns (m 2) T td n).2.1 else -1) = -1 from if_neg (not_not_intro hz), show (tLns (m 2) T td n).1 = 0 from hz]
      exact ⟨by rw [if_neg (by decide)], fun h => absurd h (by decide), fun _ => cLd_st j2 (fun x k q => (fLB_at f3 (by omega) (by omega)).trans (b1 x k (by omega))) ((fLB_at f3 (by omega) (by omega)).trans t1) ((fL_a5 f2 (by omega) (by omega)).trans g1) ((fL_a5 f2 (by omega) (by omega)).trans g2) _⟩
    · have hz : (tLns (m 2) T td n).1 ≠ 0 := hz
      have j2 := cJ_lr j1 f2
      refine z_if_ne (tgt := 48) dX11_lines_38 rfl (fun h => absurd h (by decide)) (fun h38 => ?_)
      refine z_aload_n dX11_lines_41 rfl ?_
      refine z_bipush dX11_lines_42 rfl (by decide) ?_
      refine z_callV mlX11_93 dX11_lines_44 (sx_0 j2.2.2.2.2.2.2.2.1.1) (av := [_]) rfl rfl (Nat.le_of_ble_eq_true rfl) (c_refuse _ (sx_0 j2.2.2.2.2.2.2.2.1.1) _) (Nat.le_refl _) (Nat.le_refl _) (by first | exact Nat.le_refl _ | exact le.1) (by first | exact Nat.le_refl _ | exact le.2) ?_
      rintro _ _ ⟨rfl, rfl⟩
      refine z_iret dX11_lines_47 rfl rfl ?_
      rw [show sLns (m 2) T td (m 1 1) n = 9 from by unfold sLns; rw [if_neg (not_not_intro h5), if_pos hz], show (if (tLns (m 2) T td n).1 ≠ 0 then (tLns (m 2) T td n).2.1 else -1) = (tLns (m 2) T td n).2.1 from if_pos hz]
      exact ⟨by rw [if_neg (by decide)], fun h => absurd h (by decide), fun _ => cLd_st j2 (fun x k q => (fLB_at f2 (by omega) (by omega)).trans (b1 x k (by omega))) ((fLB_at f2 (by omega) (by omega)).trans t1) e8 e9 _⟩
  · refine z_aload_n dX11_lines_8 rfl ?_
    refine z_iconst dX11_lines_9 (by decide) ?_
    refine z_callV mlX11_93 dX11_lines_10 (sx_0 hJ.2.2.2.2.2.2.2.1.1) (av := [_]) rfl rfl (Nat.le_of_ble_eq_true rfl) (c_refuse _ (sx_0 hJ.2.2.2.2.2.2.2.1.1) _) (Nat.le_refl _) (Nat.le_refl _) (by first | exact Nat.le_refl _ | exact le.1) (by first | exact Nat.le_refl _ | exact le.2) ?_
    rintro _ _ ⟨rfl, rfl⟩
    refine z_iret dX11_lines_13 rfl rfl ?_
    rw [show sLns (m 2) T td (m 1 1) n = 1 from by unfold sLns; rw [if_pos h5]]
    exact ⟨by rw [if_neg (by decide)], fun _ => cLd_st hJ (fun _ _ _ => rfl) rfl rfl rfl _, fun h => absurd rfl h⟩
