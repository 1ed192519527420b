/-! what hangs on what; loops; traits packed -/
theorem tParts_one {L : Nat} {co : Int → Int} {W k : Nat} (hg : gOn L (gFr co) (gTo co) W) (hk : k < L) : (tParts L co (k : Int) W : Int) ≤ tParts L co (-1) W + 1 := by
  have hr := gOn_rg hg
  obtain ⟨hka, hkb⟩ := hg.2 k hk
  have sk1 : ∀ x, gSk co (-1) (-1) x = false := fun x => by unfold gSk; rw [decide_eq_false_iff_not]; omega
  have sk2 : ∀ x, gSk co (k : Int) (-1) x = false ↔ x ≠ k := fun x => by unfold gSk; rw [decide_eq_false_iff_not]; omega
  have dv := gR_dv (sk := gSk co (-1) (-1)) hr
  have dv' := gR_dv (sk := gSk co (k : Int) (-1)) hr
  have ia := fun v (hv : v < 8) => gR_is (sk := gSk co (-1) (-1)) hv hr
  have ib := fun v (hv : v < 8) => gR_is (sk := gSk co (k : Int) (-1)) hv hr
  have a8 := (hr k hk).1
  have b8 := (hr k hk).2
  have hsub : ∀ v, v < 8 → gSub (tR L co (k : Int) (-1) v) (tR L co (-1) (-1) v) := fun v hv => (ib v hv).2.2.2 _ (ia v hv).2.1 (fun x hx _ => (ia v hv).2.2.1 x hx (sk1 x))
  rw [tParts_sum hg, tParts_sum hg]
  by_cases hab : (tR L co (k : Int) (-1) (gFr co k)).testBit (gTo co k) = true
  · -- nothing falls apart
    have he : ∀ v, v < 8 → tR L co (k : Int) (-1) v = tR L co (-1) (-1) v := fun v hv => by
      have hcl : gClosed L (gFr co) (gTo co) (gSk co (-1) (-1)) (tR L co (k : Int) (-1) v) := fun x hx _ => by
        by_cases e : x = k
        · subst e
          cases q1 : (tR L co (x : Int) (-1) v).testBit (gFr co x) with
          | true =>
            have e1 : tR L co (x : Int) (-1) (gFr co x) = tR L co (x : Int) (-1) v := dv'.2 _ v hv q1
            rw [e1] at hab; exact hab.symm
          | false =>
            cases q2 : (tR L co (x : Int) (-1) v).testBit (gTo co x) with
            | false => rfl
            | true =>
              have e1 : tR L co (x : Int) (-1) (gTo co x) = tR L co (x : Int) (-1) v := dv'.2 _ v hv q2
              have e2 : tR L co (x : Int) (-1) (gTo co x) = tR L co (x : Int) (-1) (gFr co x) := dv'.2 _ _ a8 hab
              have := (ib _ a8).2.1
              have t : (tR L co (x : Int) (-1) (gFr co x)).testBit (gFr co x) = true := this
              rw [← e2, e1, q1] at t
              cases t
        · exact (ib v hv).2.2.1 x hx ((sk2 x).mpr e)
      have s2 : gSub (tR L co (-1) (-1) v) (tR L co (k : Int) (-1) v) := (ia v hv).2.2.2 _ (ib v hv).2.1 hcl
      refine zset_ext (fun i => ?_)
      have a := hsub v hv i
      have b := s2 i
      cases e1 : (tR L co (k : Int) (-1) v).testBit i <;> cases e2 : (tR L co (-1) (-1) v).testBit i <;> simp_all
    have es : zsum (fun v => zb (mnB (tR L co (k : Int) (-1)) W v.toNat = true)) 8 0 = zsum (fun v => zb (mnB (tR L co (-1) (-1)) W v.toNat = true)) 8 0 := zsum_congr (fun i q0 q1 => by
      have : mnB (tR L co (k : Int) (-1)) W i.toNat = mnB (tR L co (-1) (-1)) W i.toNat := Bool.eq_iff_iff.mpr (by
        rw [mnB_iff, mnB_iff]
        constructor
        · rintro ⟨h1, h2⟩; exact ⟨h1, fun u hu hw => by rw [← he u (by omega)]; exact h2 u hu hw⟩
        · rintro ⟨h1, h2⟩; exact ⟨h1, fun u hu hw => by rw [he u (by omega)]; exact h2 u hu hw⟩)
      rw [this])
    rw [es]
    omega
  · have hab : (tR L co (k : Int) (-1) (gFr co k)).testBit (gTo co k) = false := by simpa using hab
    have g1 : gFr co k ≠ gTo co k := fun h => by
      have t : (tR L co (k : Int) (-1) (gFr co k)).testBit (gFr co k) = true := (ib _ a8).2.1
      rw [← h, t] at hab; cases hab
    have g2 : gTw L (gFr co) (gTo co) k = false := gTw_f (fun x hx h => by
      have c := (ib _ a8).2.2.1 x hx ((sk2 x).mpr h.1)
      have t : (gR L (gFr co) (gTo co) (gSk co (k : Int) (-1)) (gFr co k)).testBit (gFr co k) = true := (ib _ a8).2.1
      have hab : (gR L (gFr co) (gTo co) (gSk co (k : Int) (-1)) (gFr co k)).testBit (gTo co k) = false := hab
      rcases h.2 with ⟨e1, e2⟩ | ⟨e1, e2⟩
      · rw [e1, e2, t, hab] at c; cases c
      · rw [e1, e2, t, hab] at c; cases c)
    have hcut := parts_cut (R := tR L co (-1) (-1)) (R' := tR L co (k : Int) (-1)) (a := gFr co k) (b := gTo co k) dv dv' hg.1 (fun u v hv hu => ?_) hka ?_ hsub (fun v hv hna => ?_) (fun v hv => ?_) hab
    · rw [hcut]
      omega
    · rw [tR_cls hg hv] at hu
      exact (gRs_is (N := gNb (gFr co) (gTo co) L) (A := 2 ^ v) hg.1).2.2.1 u hu
    · have c := (ia _ a8).2.2.1 k hk (sk1 k)
      have t := (ia _ a8).2.1
      rw [t] at c
      exact c.symm
    · -- away from the line
      have na : (tR L co (k : Int) (-1) v).testBit (gFr co k) = false := by
        cases q : (tR L co (k : Int) (-1) v).testBit (gFr co k) with
        | false => rfl
        | true => have := gDv_sym dv hv (hsub v hv _ q); rw [show (gR L (gFr co) (gTo co) (gSk co (-1) (-1)) (gFr co k)).testBit v = false from hna] at this; cases this
      have nb : (tR L co (k : Int) (-1) v).testBit (gTo co k) = false := by
        cases q : (tR L co (k : Int) (-1) v).testBit (gTo co k) with
        | false => rfl
        | true =>
          have h1 := hsub v hv _ q
          have c := (ia v hv).2.2.1 k hk (sk1 k)
          rw [show (gR L (gFr co) (gTo co) (gSk co (-1) (-1)) v).testBit (gTo co k) = true from h1] at c
          have := gDv_sym dv hv c
          rw [show (gR L (gFr co) (gTo co) (gSk co (-1) (-1)) (gFr co k)).testBit v = false from hna] at this; cases this
      have s2 : gSub (tR L co (-1) (-1) v) (tR L co (k : Int) (-1) v) := (ia v hv).2.2.2 _ (ib v hv).2.1 (fun x hx _ => by
        by_cases e : x = k
        · rw [e]; exact na.trans nb.symm
        · exact (ib v hv).2.2.1 x hx ((sk2 x).mpr e))
      refine zset_ext (fun i => ?_)
      have a := hsub v hv i
      have b := s2 i
      cases e1 : (tR L co (k : Int) (-1) v).testBit i <;> cases e2 : (tR L co (-1) (-1) v).testBit i <;> simp_all
    · have hT := (ia _ a8).2.2.2 (tR L co (k : Int) (-1) (gFr co k) ||| tR L co (k : Int) (-1) (gTo co k)) (by rw [Nat.testBit_or, show (tR L co (k : Int) (-1) (gFr co k)).testBit (gFr co k) = true from (ib _ a8).2.1, Bool.true_or]) (fun x hx _ => by
        by_cases e : x = k
        · rw [e, Nat.testBit_or, Nat.testBit_or, show (tR L co (k : Int) (-1) (gFr co k)).testBit (gFr co k) = true from (ib _ a8).2.1, show (tR L co (k : Int) (-1) (gTo co k)).testBit (gTo co k) = true from (ib _ b8).2.1, Bool.true_or, Bool.or_true]
        · rw [Nat.testBit_or, Nat.testBit_or, show (tR L co (k : Int) (-1) (gFr co k)).testBit (gFr co x) = (tR L co (k : Int) (-1) (gFr co k)).testBit (gTo co x) from (ib _ a8).2.2.1 x hx ((sk2 x).mpr e), show (tR L co (k : Int) (-1) (gTo co k)).testBit (gFr co x) = (tR L co (k : Int) (-1) (gTo co k)).testBit (gTo co x) from (ib _ b8).2.2.1 x hx ((sk2 x).mpr e)]) v hv
      rw [Nat.testBit_or, Bool.or_eq_true] at hT
      exact hT

/-- without the last line -/
theorem gR_last {L : Nat} {co : Int → Int} (p : Nat) : tR (L + 1) co (L : Int) (-1) p = tR L co (-1) (-1) p := by
  have e : gReach (L + 1) (gFr co) (gTo co) (gSk co (L : Int) (-1)) p = gReach L (gFr co) (gTo co) (gSk co (-1) (-1)) p := by
    have c : ∀ S, gClosed (L + 1) (gFr co) (gTo co) (gSk co (L : Int) (-1)) S ↔ gClosed L (gFr co) (gTo co) (gSk co (-1) (-1)) S := fun S => by
      constructor
      · intro h k hk _
        exact h k (by omega) (by unfold gSk; rw [decide_eq_false_iff_not]; omega)
      · intro h k hk hs
        have hs : ¬ ((k : Int) = (L : Int) ∨ ((gFr co k : Nat) : Int) = -1 ∨ ((gTo co k : Nat) : Int) = -1) := by unfold gSk at hs; exact decide_eq_false_iff_not.mp hs
        exact h k (by omega) (by unfold gSk; rw [decide_eq_false_iff_not]; omega)
    funext S
    unfold gReach
    rw [c S]
    refine propext ⟨fun h => ⟨h.1, h.2.1, h.2.2.1, fun T t1 t2 => h.2.2.2 T t1 ((c T).mpr t2)⟩, fun h => ⟨h.1, h.2.1, h.2.2.1, fun T t1 t2 => h.2.2.2 T t1 ((c T).mp t2)⟩⟩
  unfold tR gR
  rw [e]
theorem gOn_le {L : Nat} {fr to' : Nat → Nat} {W : Nat} (h : gOn (L + 1) fr to' W) : gOn L fr to' W := ⟨h.1, fun k hk => h.2 k (by omega)⟩
theorem loops_nn {co : Int → Int} {W : Nat} : ∀ {L : Nat}, gOn L (gFr co) (gTo co) W → zsum (fun v => zb (W.testBit v.toNat = true)) 8 0 ≤ (L : Int) + (tParts L co (-1) W : Int)
  | 0, hg => by
    rw [tParts_sum hg]
    have hid : ∀ v, v < 8 → tR 0 co (-1) (-1) v = 2 ^ v := fun v hv => gR_eq ⟨Nat.pow_lt_pow_right (by decide) hv, Nat.testBit_two_pow_self, fun k hk => by omega, fun T ht _ u hu => by
      rw [Nat.testBit_two_pow, decide_eq_true_eq] at hu
      rw [← hu]; exact ht⟩
    have : zsum (fun v => zb (W.testBit v.toNat = true)) 8 0 = zsum (fun v => zb (mnB (tR 0 co (-1) (-1)) W v.toNat = true)) 8 0 := zsum_congr (fun v v0 v1 => zb_congr (by
      rw [mnB_iff]
      refine ⟨fun h => ⟨h, fun u hu _ => ?_⟩, fun h => h.1⟩
      rw [hid u (by omega), Nat.testBit_two_pow, decide_eq_false_iff_not]
      omega))
    omega
  | L + 1, hg => by
    have ih := loops_nn (gOn_le hg)
    have h1 := tParts_one hg (k := L) (by omega)
    have e : tParts (L + 1) co (L : Int) W = tParts L co (-1) W := by
      unfold tParts
      rw [show tR (L + 1) co (L : Int) (-1) = tR L co (-1) (-1) from funext gR_last]
    rw [e] at h1
    omega
theorem tAll_pop {c : Int → Int} (h : 0 ≤ c 2 ∧ c 2 ≤ 8) : zsum (fun v => zb ((tAll c).testBit v.toNat = true)) 8 0 = c 2 := by
  have e : zsum (fun v => zb ((tAll c).testBit v.toNat = true)) 8 0 = zsum (fun v => zb (v < c 2)) 8 0 := zsum_congr (fun v v0 v1 => zb_congr (by
    unfold tAll
    rw [Nat.testBit_two_pow_sub_one, decide_eq_true_eq]
    omega))
  rw [e]
  obtain ⟨n, hn⟩ := Int.eq_ofNat_of_zero_le h.1
  rw [hn]
  have hn8 : n ≤ 8 := by omega
  revert hn8
  have : ∀ n : Nat, n < 9 → zsum (fun v => zb (v < (n : Int))) 8 0 = (n : Int) := by decide
  exact fun h => this n (by omega)
theorem parts_up {R : Nat → Nat} : ∀ (s p left : Nat), ((sParts R s p left : Nat) : Int) ≤ zsum (fun v => zb (left.testBit v.toNat = true)) s (p : Int)
  | 0, p, left => Int.le_refl _
  | s + 1, p, left => by
    rw [zsum_s, Int.toNat_natCast]
    by_cases h : left.testBit p = true
    · rw [sParts_t h, zb_t h]
      have ih := parts_up (R := R) s (p + 1) (left ^^^ (left &&& R p))
      have hle : zsum (fun v => zb ((left ^^^ (left &&& R p)).testBit v.toNat = true)) s ((p + 1 : Nat) : Int) ≤ zsum (fun v => zb (left.testBit v.toNat = true)) s ((p + 1 : Nat) : Int) := zsum_le (fun v _ _ => by
        rw [andn_bit]
        by_cases y : left.testBit v.toNat = true
        · rw [zb_t y]
          have := zb01 ((left.testBit v.toNat && !(R p).testBit v.toNat) = true)
          omega
        · rw [zb_f y, zb_f (by simp [y])]
          exact Int.le_refl _)
      rw [show (p : Int) + 1 = ((p + 1 : Nat) : Int) by omega]
      omega
    · rw [sParts_f (by simpa using h), zb_f h]
      have ih := parts_up (R := R) s (p + 1) left
      rw [show (p : Int) + 1 = ((p + 1 : Nat) : Int) by omega]
      omega
theorem loops_rg {c : Int → Int} {h : Nat} {co : Int → Int} (h2 : 0 ≤ c 2 ∧ c 2 ≤ 8) (hg : gOn h (gFr co) (gTo co) (tAll c)) : 0 ≤ tLoops c h co ∧ tLoops c h co ≤ h ∧ (tParts h co (-1) (tAll c) : Int) ≤ 8 := by
  have a := loops_nn hg
  have b := parts_up (R := tR h co (-1) (-1)) 8 0 (tAll c)
  have e := tAll_pop h2
  rw [show ((0 : Nat) : Int) = 0 from rfl] at b
  rw [e] at a b
  unfold tLoops
  have e2 : sParts (tR h co (-1) (-1)) 8 0 (tAll c) = tParts h co (-1) (tAll c) := rfl
  rw [e2] at b
  omega
/-- all that hangs on points of A -/
theorem hang_is {L : Nat} {co : Int → Int} {W A : Nat} (hg : gOn L (gFr co) (gTo co) W) : gRs (gNb (gFr co) (gTo co) L) W A = W ^^^ (W &&& zmask (fun p => W.testBit p && decide (tR L co (-1) (-1) p &&& A = 0)) 8) := by
  have hr := gOn_rg hg
  have dv := gR_dv (sk := gSk co (-1) (-1)) hr
  have hb : ∀ x, (W ^^^ (W &&& zmask (fun p => W.testBit p && decide (tR L co (-1) (-1) p &&& A = 0)) 8)).testBit x = true ↔ W.testBit x = true ∧ tR L co (-1) (-1) x &&& A ≠ 0 := fun x => by
    rw [andn_bit, zmask_bit]
    constructor
    · intro h
      have h1 : W.testBit x = true := by
        cases q : W.testBit x <;> simp [q] at h ⊢
      refine ⟨h1, fun z => ?_⟩
      rw [h1, decide_eq_true (bit8 hg.1 h1), decide_eq_true z] at h
      simp at h
    · rintro ⟨h1, h2⟩
      rw [h1, decide_eq_true (bit8 hg.1 h1), decide_eq_false h2]
      rfl
  have ne : ∀ {a : Nat}, a ≠ 0 → ∃ i, a.testBit i = true := fun {a} h => by
    apply Classical.byContradiction
    intro z
    exact h (zset_ext (fun i => by
      rw [Nat.zero_testBit]
      cases q : a.testBit i
      · rfl
      · exact absurd ⟨i, q⟩ z))
  have ex : ∀ {a b : Nat}, a &&& b ≠ 0 ↔ ∃ i, a.testBit i = true ∧ b.testBit i = true := fun {a b} => by
    constructor
    · intro h
      obtain ⟨i, hi⟩ := ne h
      rw [Nat.testBit_and, Bool.and_eq_true] at hi
      exact ⟨i, hi⟩
    · rintro ⟨i, h1, h2⟩ z
      have := congrArg (fun q : Nat => q.testBit i) z
      rw [Nat.testBit_and, h1, h2, Nat.zero_testBit] at this
      cases this
  have R : ∀ x, W.testBit x = true → gRe (gNb (gFr co) (gTo co) L) W (2 ^ x) (tR L co (-1) (-1) x) := fun x hx => by
    rw [tR_cls hg hx]; exact gRs_is hg.1
  have self : ∀ x, W.testBit x = true → (tR L co (-1) (-1) x).testBit x = true := fun x hx => (R x hx).2.1 x (by rw [Nat.testBit_and, Nat.testBit_two_pow_self, hx]; rfl)
  refine gRs_eq ⟨?_, fun x hx => ?_, fun x hx => ((hb x).mp hx).1, fun v q v8 hv hq hwq => ?_, fun T h1 h2 x hx => ?_⟩
  · refine Nat.lt_of_le_of_lt (Nat.le_of_testBit (fun i h => ((hb i).mp h).1)) hg.1
  · rw [Nat.testBit_and, Bool.and_eq_true] at hx
    exact (hb x).mpr ⟨hx.2, ex.mpr ⟨x, self x hx.2, hx.1⟩⟩
  · obtain ⟨w1, w2⟩ := (hb v).mp hv
    refine (hb q).mpr ⟨hwq, ?_⟩
    have hqv : (tR L co (-1) (-1) v).testBit q = true := (R v w1).2.2.2.1 v q v8 (self v w1) hq hwq
    have e : tR L co (-1) (-1) q = tR L co (-1) (-1) v := dv.2 q v v8 hqv
    rw [e]; exact w2
  · obtain ⟨w1, w2⟩ := (hb x).mp hx
    obtain ⟨a, a1, a2⟩ := ex.mp w2
    have aw := (R x w1).2.2.1 a a1
    have sy : (tR L co (-1) (-1) a).testBit x = true := gDv_sym dv (bit8 hg.1 w1) a1
    refine (R a aw).2.2.2.2 T (fun u hu => ?_) h2 x sy
    rw [Nat.testBit_and, Nat.testBit_two_pow, Bool.and_eq_true, decide_eq_true_eq] at hu
    rw [← hu.1]
    exact h1 a (by rw [Nat.testBit_and, a2, aw]; rfl)
theorem hang_lost {c : Int → Int} {h : Nat} {co : Int → Int} {W : Nat} (hg : gOn h (gFr co) (gTo co) W) : gRs (gNb (gFr co) (gTo co) h) W (tOut c) = W ^^^ (W &&& tLost c h co W) := hang_is hg
theorem andn_self {W Z : Nat} (hz : ∀ i, Z.testBit i = true → W.testBit i = true) : W ^^^ (W &&& Z) = W ↔ Z = 0 := by
  constructor
  · intro h
    refine zset_ext (fun i => ?_)
    rw [Nat.zero_testBit]
    cases q : Z.testBit i with
    | false => rfl
    | true =>
      have := congrArg (fun x : Nat => x.testBit i) h
      rw [andn_bit, q, hz i q] at this
      cases this
  · intro h
    rw [h, Nat.and_zero, Nat.xor_zero]
theorem linked_iff {c : Int → Int} {h : Nat} {co : Int → Int} {W : Nat} (hg : gOn h (gFr co) (gTo co) W) : gRs (gNb (gFr co) (gTo co) h) W (tOut c) = W ↔ tLost c h co W = 0 := by
  rw [hang_lost hg]
  refine andn_self (fun i hi => ?_)
  unfold tLost at hi
  rw [zmask_bit, Bool.and_eq_true, Bool.and_eq_true] at hi
  exact hi.2.1
/-- traits packed -/
def shN (lk pa lo br ri : Nat) : Nat := 128 * (1 + 2 * lk + 4 * pa + 64 * lo + 512 * br + 4096 * ri)
theorem or_add {a b k : Nat} (h : a < 2 ^ k) : a ||| b * 2 ^ k = a + b * 2 ^ k := by
  have := Nat.two_pow_add_eq_or_of_lt h b
  rw [Nat.or_comm, Nat.mul_comm b, ← this]
  omega
theorem shN_1 {pa lo : Nat} (hp : pa ≤ 8) (hl : lo ≤ 6) : zor (zor 128 (zshl (pa : Int) 9)) (zshl (lo : Int) 13) = ((128 + 512 * pa + 8192 * lo : Nat) : Int) := by
  have e1 := zshl_N (a := pa) (k := 9) (by decide) (by omega)
  have e2 := zshl_N (a := lo) (k := 13) (by decide) (by omega)
  have e3 : zor 128 ((pa * 2 ^ 9 : Nat) : Int) = ((128 + pa * 2 ^ 9 : Nat) : Int) := by
    rw [show (128 : Int) = ((128 : Nat) : Int) from rfl, zor_N (by decide) (by omega), or_add (by decide)]
  rw [show (9 : Int) = ((9 : Nat) : Int) from rfl, show (13 : Int) = ((13 : Nat) : Int) from rfl, e1, e2, e3, zor_N (by omega) (by omega), or_add (by omega)]
  omega
theorem shN_2 {s br ri : Nat} (hs : s < 65536) (hb : br ≤ 6) (hr : ri ≤ 6) : zor (s : Int) (zor (zshl (br : Int) 16) (zshl (ri : Int) 19)) = ((s + 65536 * br + 524288 * ri : Nat) : Int) := by
  have e1 := zshl_N (a := br) (k := 16) (by decide) (by omega)
  have e2 := zshl_N (a := ri) (k := 19) (by decide) (by omega)
  rw [show (16 : Int) = ((16 : Nat) : Int) from rfl, show (19 : Int) = ((19 : Nat) : Int) from rfl, e1, e2, zor_N (by omega) (by omega), or_add (by omega), show br * 2 ^ 16 + ri * 2 ^ 19 = (br + ri * 8) * 2 ^ 16 by omega, zor_N (by omega) (by omega), or_add (by omega)]
  omega
theorem shN_3 {K : Nat} (hK : K < 65536) : zor ((128 + 512 * K : Nat) : Int) 256 = ((384 + 512 * K : Nat) : Int) := by
  have h1 := or_add (a := 128) (b := K) (k := 9) (by decide)
  have h2 := or_add (a := 384) (b := K) (k := 9) (by decide)
  rw [show (256 : Int) = ((256 : Nat) : Int) from rfl, zor_N (by omega) (by decide), show 128 + 512 * K = 128 + K * 2 ^ 9 by omega, ← h1, Nat.or_assoc, Nat.or_comm (K * 2 ^ 9) 256, ← Nat.or_assoc, show 128 ||| 256 = 384 from rfl, h2]
  omega
theorem shN_4 {fx lk pa lo br ri : Nat} (hf : fx < 128) (hk : lk ≤ 1) (hp : pa ≤ 8) (hl : lo ≤ 6) (hb : br ≤ 6) (hr : ri ≤ 6) : zor (fx : Int) ((shN lk pa lo br ri : Nat) : Int) = ((fx + shN lk pa lo br ri : Nat) : Int) := by
  unfold shN
  rw [zor_N (by omega) (by omega), Nat.mul_comm 128, show (128 : Nat) = 2 ^ 7 from rfl, or_add hf]
theorem zand_p {a k : Nat} (h : a < 2147483648) : zand (a : Int) ((2 ^ k - 1 : Nat) : Int) = ((a % 2 ^ k : Nat) : Int) := by
  rw [zand_N h, Nat.and_two_pow_sub_one_eq_mod]
theorem zand_1b {a k : Nat} (h : a < 2147483648) : zand (a : Int) ((2 ^ k : Nat) : Int) = if a.testBit k = true then ((2 ^ k : Nat) : Int) else 0 := by
  rw [zand_N h]
  have : a &&& 2 ^ k = if a.testBit k = true then 2 ^ k else 0 := by
    refine zset_ext (fun i => ?_)
    rw [Nat.testBit_and, Nat.testBit_two_pow]
    by_cases e : k = i
    · subst e
      rw [decide_eq_true rfl, Bool.and_true]
      split
      · rename_i q; rw [q, Nat.testBit_two_pow_self]
      · rename_i q; rw [Nat.zero_testBit]; simpa using q
    · rw [decide_eq_false e, Bool.and_false]
      split
      · rw [Nat.testBit_two_pow, decide_eq_false e]
      · rw [Nat.zero_testBit]
  rw [this]
  split <;> rfl
