/-! all orders: class by class, or rank by rank -/
theorem alike_rf {c : Int → Int} {p : Int} (h : c (32 + 9 * p + 1) = 1) : cAlike c p p = true := by
  rw [cAlike_iff]
  exact ⟨⟨h, h, rfl, Iff.rfl⟩, zfst_none (fun k hk => by rw [decide_eq_false_iff_not]; exact fun z => z rfl)⟩
def rkA (c : Int → Int) (q : Int) : Int := zsum (fun r => zb (cAlike c q r = true)) (q.toNat + 1) 0
theorem zsum_sn (f : Int → Int) (j : Nat) : zsum f (j + 1) 0 = zsum f j 0 + f (j : Int) := by
  rw [zsum_app, zsum_s, zsum_0, Int.zero_add, Int.add_zero]
theorem zpr_sn (F : Int → Int) : ∀ (j : Nat) (k : Int), zpr F (j + 1) k = zpr F j k * F (k + j)
  | 0, k => by
    show F k * 1 = 1 * F (k + ((0 : Nat) : Int))
    rw [Int.mul_one, Int.one_mul, show k + ((0 : Nat) : Int) = k by omega]
  | j + 1, k => by
    show F k * zpr F (j + 1) (k + 1) = F k * zpr F j (k + 1) * F (k + ((j + 1 : Nat) : Int))
    rw [zpr_sn F j (k + 1), Int.mul_assoc, show k + 1 + (j : Int) = k + ((j + 1 : Nat) : Int) by omega]
theorem zpr_app (F : Int → Int) : ∀ (a b : Nat) (k : Int), zpr F (a + b) k = zpr F a k * zpr F b (k + a)
  | 0, b, k => by
    rw [Nat.zero_add, show k + ((0 : Nat) : Int) = k by omega]
    show _ = 1 * _
    rw [Int.one_mul]
  | a + 1, b, k => by
    rw [show a + 1 + b = (a + b) + 1 by omega]
    show F k * zpr F (a + b) (k + 1) = F k * zpr F a (k + 1) * zpr F b (k + ((a + 1 : Nat) : Int))
    rw [zpr_app F a b (k + 1), Int.mul_assoc, show k + 1 + (a : Int) = k + ((a + 1 : Nat) : Int) by omega]
theorem zpr_mul (F G : Int → Int) : ∀ (j : Nat) (k : Int), zpr (fun i => F i * G i) j k = zpr F j k * zpr G j k
  | 0, _ => rfl
  | j + 1, k => by
    show F k * G k * zpr (fun i => F i * G i) j (k + 1) = F k * zpr F j (k + 1) * (G k * zpr G j (k + 1))
    rw [zpr_mul F G j (k + 1), Int.mul_assoc, Int.mul_assoc, Int.mul_left_comm (G k)]
theorem zpr_le {F G : Int → Int} : ∀ {j : Nat} {k : Int}, (∀ i, k ≤ i → i < k + j → 1 ≤ F i ∧ F i ≤ G i) → 1 ≤ zpr F j k ∧ zpr F j k ≤ zpr G j k
  | 0, _, _ => ⟨Int.le_refl _, Int.le_refl _⟩
  | j + 1, k, h => by
    have ih := zpr_le (F := F) (G := G) (j := j) (k := k + 1) (fun i i0 i1 => h i (by omega) (by omega))
    have h0 := h k (by omega) (by omega)
    show 1 ≤ F k * zpr F j (k + 1) ∧ F k * zpr F j (k + 1) ≤ G k * zpr G j (k + 1)
    have a := Int.mul_le_mul h0.1 ih.1 (by decide) (by omega)
    have b := Int.mul_le_mul h0.2 ih.2 (by omega) (by omega)
    exact ⟨by omega, b⟩
theorem rkA_1 {c : Int → Int} {q : Int} (h : c (32 + 9 * q + 1) = 1) (q0 : 0 ≤ q) : 1 ≤ rkA c q := by
  unfold rkA
  rw [zsum_sn, show ((q.toNat : Nat) : Int) = q by omega, zb_t (alike_rf h)]
  have := zsum_nn (f := fun r => zb (cAlike c q r = true)) (j := q.toNat) (k := 0) (fun r _ _ => by have := zb01 (cAlike c q r = true); omega)
  omega
/-- the ranks of a class make its factorial -/
theorem cls_fac {c : Int → Int} {p : Int} : ∀ j : Nat, zpr (fun q => if cAlike c p q = true then rkA c q else 1) j 0 = fac (zsum (fun q => zb (cAlike c p q = true)) j 0).toNat
  | 0 => rfl
  | j + 1 => by
    rw [zpr_sn, cls_fac j, zsum_sn, Int.zero_add]
    have hn := zsum_nn (f := fun q => zb (cAlike c p q = true)) (j := j) (k := 0) (fun r _ _ => by have := zb01 (cAlike c p r = true); omega)
    by_cases z : cAlike c p (j : Int) = true
    · rw [if_pos z, zb_t z]
      have e : rkA c (j : Int) = zsum (fun q => zb (cAlike c p q = true)) j 0 + 1 := by
        unfold rkA
        rw [Int.toNat_natCast, zsum_sn, zb_t (alike_tr (alike_sy z) z)]
        congr 1
        exact zsum_congr (fun q _ _ => zb_congr ⟨fun y => alike_tr z y, fun y => alike_tr (alike_sy z) y⟩)
      rw [e]
      obtain ⟨x, ex⟩ := Int.eq_ofNat_of_zero_le hn
      rw [ex, show ((x : Int) + 1).toNat = x + 1 by omega, Int.toNat_natCast, Int.mul_comm]
      rfl
    · rw [if_neg z, zb_f z, Int.mul_one, Int.add_zero]
def gSn (c : Int → Int) (seen : Nat) (q : Int) : Int := if seen.testBit q.toNat = true then rkA c q else 1
def fThq (c : Int → Int) (q : Int) : Int := oPt c q (c (32 + 9 * q)).toNat * (if c (32 + 9 * q + 1) = 1 then rkA c q else 1)
theorem oTh_s (c : Int → Int) (p : Nat) : oTh c (p + 1) = oTh c p * fThq c (p : Int) := by
  show oTh c p * oPt c (p : Int) (c (32 + 9 * (p : Int))).toNat * _ = _
  unfold fThq rkA
  rw [Int.mul_assoc, Int.toNat_natCast]
theorem oTh_app (c : Int → Int) : ∀ (s p : Nat), oTh c (p + s) = oTh c p * zpr (fThq c) s (p : Int)
  | 0, p => by
    show oTh c p = oTh c p * 1
    rw [Int.mul_one]
  | s + 1, p => by
    rw [show p + (s + 1) = (p + s) + 1 by omega, oTh_s, oTh_app c s p, zpr_sn, Int.mul_assoc, show (p : Int) + (s : Int) = ((p + s : Nat) : Int) by omega]
theorem fThq_ge {c : Int → Int} {q : Int} (q0 : 0 ≤ q) : 1 ≤ fThq c q := by
  unfold fThq
  have a := (oPt_bd c q (c (32 + 9 * q)).toNat).1
  split
  · rename_i h
    have b := rkA_1 h q0
    have := Int.mul_le_mul a b (by decide) (by omega)
    omega
  · omega
theorem gSn_le {c : Int → Int} {seen : Nat} {q : Int} (q0 : 0 ≤ q) (hs : seen.testBit q.toNat = true → c (32 + 9 * q + 1) = 1) : 1 ≤ gSn c seen q ∧ gSn c seen q ≤ fThq c q := by
  have a := (oPt_bd c q (c (32 + 9 * q)).toNat).1
  by_cases z : seen.testBit q.toNat = true
  · have hv := hs z
    have b := rkA_1 hv q0
    unfold gSn fThq
    rw [if_pos z, if_pos hv]
    have := Int.mul_le_mul_of_nonneg_right a (show 0 ≤ rkA c q by omega)
    omega
  · have b := fThq_ge (c := c) q0
    unfold gSn
    rw [if_neg z]
    omega
theorem sOrd_bd {c : Int → Int} {seen s p : Nat} (hw : wfC c) (hp : p + s = (c 2).toNat) (hT : cPre c (c 2).toNat ≤ 12) (hV : zsum (fun p => zb (c (32 + 9 * p + 1) = 1)) (c 2).toNat 0 ≤ 5) (hs : ∀ q : Nat, p ≤ q → q < (c 2).toNat → seen.testBit q = true → c (32 + 9 * (q : Int) + 1) = 1) : 0 ≤ oTh c p * zpr (gSn c seen) s (p : Int) ∧ oTh c p * zpr (gSn c seen) s (p : Int) ≤ 2013265920 := by
  have hc2 := hw.2.2.1
  have h1 := (oTh_rg hw p (by omega)).1.1
  have h2 := (oTh_bd hw (c 2).toNat (by omega) hT hV).2
  have h3 := zpr_le (F := gSn c seen) (G := fThq c) (j := s) (k := (p : Int)) (fun i i0 i1 => gSn_le (by omega) (fun z => by
    have := hs i.toNat (by omega) (by omega) z
    rw [show ((i.toNat : Nat) : Int) = i by omega] at this
    exact this))
  rw [← hp, oTh_app] at h2
  have h4 := Int.mul_le_mul_of_nonneg_left h3.2 h1
  exact ⟨Int.mul_nonneg h1 (by omega), Int.le_trans h4 h2⟩
theorem sOrd_is {c : Int → Int} (hw : wfC c) (hT : cPre c (c 2).toNat ≤ 12) (hV : zsum (fun p => zb (c (32 + 9 * p + 1) = 1)) (c 2).toNat 0 ≤ 5) : ∀ (s p seen : Nat) (v : Int), p + s = (c 2).toNat → (∀ q : Nat, p ≤ q → q < (c 2).toNat → (seen.testBit q = true ↔ ∃ r : Nat, r < p ∧ cAlike c (r : Int) (q : Int) = true)) → v = oTh c p * zpr (gSn c seen) s (p : Int) → sOrd c s p seen v = oTh c (c 2).toNat
  | 0, p, seen, v, hp, hs, hv => by
    show v = _
    rw [hv, ← hp]
    show oTh c p * 1 = oTh c (p + 0)
    rw [Int.mul_one]
    rfl
  | s + 1, p, seen, v, hp, hs, hv => by
    have hc2 := hw.2.2.1
    have vx : ∀ q : Nat, p ≤ q → q < (c 2).toNat → seen.testBit q = true → c (32 + 9 * (q : Int) + 1) = 1 := fun q q0 q1 z => by
      obtain ⟨r, r1, r2⟩ := (hs q q0 q1).mp z
      exact (cAlike_iff.mp r2).1.2.1
    have hz : zpr (gSn c seen) (s + 1) (p : Int) = gSn c seen (p : Int) * zpr (gSn c seen) s ((p + 1 : Nat) : Int) := by
      show gSn c seen (p : Int) * zpr (gSn c seen) s ((p : Int) + 1) = _
      rw [show (p : Int) + 1 = ((p + 1 : Nat) : Int) by omega]
    have hg1 : seen.testBit p = false → c (32 + 9 * (p : Int) + 1) = 1 → rkA c (p : Int) = 1 := fun z y => by
      have h0 : zsum (fun r => zb (cAlike c (p : Int) r = true)) p 0 = 0 := zsum_z (fun r r0 r1 => zb_f (fun x => by
        have := (hs p (Nat.le_refl _) (by omega)).mpr ⟨r.toNat, by omega, by rw [show ((r.toNat : Nat) : Int) = r by omega]; exact alike_sy x⟩
        rw [this] at z
        cases z))
      unfold rkA
      rw [Int.toNat_natCast, zsum_sn, zb_t (alike_rf y), h0]
      rfl
    have hv1 : v * oPt c (p : Int) (c (32 + 9 * (p : Int))).toNat = oTh c (p + 1) * zpr (gSn c seen) s ((p + 1 : Nat) : Int) := by
      have e : gSn c seen (p : Int) = if c (32 + 9 * (p : Int) + 1) = 1 then rkA c (p : Int) else 1 := by
        unfold gSn
        rw [Int.toNat_natCast]
        by_cases z : seen.testBit p = true
        · rw [if_pos z, if_pos (vx p (Nat.le_refl _) (by omega) z)]
        · rw [if_neg z]
          by_cases y : c (32 + 9 * (p : Int) + 1) = 1
          · rw [if_pos y, hg1 (by simpa using z) y]
          · rw [if_neg y]
      rw [hv, hz, oTh_s]
      unfold fThq
      rw [← e]
      generalize gSn c seen (p : Int) = A
      generalize oPt c (p : Int) (c (32 + 9 * (p : Int))).toNat = B
      generalize zpr (gSn c seen) s ((p + 1 : Nat) : Int) = C
      generalize oTh c p = O
      rw [Int.mul_assoc O (A * C) B, Int.mul_assoc O (B * A) C, Int.mul_comm (A * C) B, Int.mul_assoc B A C]
    have hb := sOrd_bd (seen := seen) (s := s) (p := p + 1) hw (by omega) hT hV (fun q q0 q1 => vx q (by omega) q1)
    have hv0 : 0 ≤ v := by
      rw [hv]
      exact (sOrd_bd (seen := seen) (s := s + 1) (p := p) hw hp hT hV vx).1
    have hL := zfd_oPt hw (p := (p : Int)) (v := v) (by omega) (by omega) hv0 (by rw [hv1]; omega)
    rw [sOrd_s, hL, hv1]
    by_cases hc : seen.testBit p = true ∨ ¬ c (32 + 9 * (p : Int) + 1) = 1
    · rw [if_pos hc]
      refine sOrd_is hw hT hV s (p + 1) seen _ (by omega) (fun q q0 q1 => ?_) rfl
      rw [hs q (by omega) q1]
      constructor
      · rintro ⟨r, r1, r2⟩; exact ⟨r, by omega, r2⟩
      · rintro ⟨r, r1, r2⟩
        by_cases e : r = p
        · rw [e] at r2
          rcases hc with z | z
          · obtain ⟨x, x1, x2⟩ := (hs p (Nat.le_refl _) (by omega)).mp z
            exact ⟨x, x1, alike_tr x2 r2⟩
          · exact absurd (cAlike_iff.mp r2).1.1 z
        · exact ⟨r, by omega, r2⟩
    · rw [if_neg hc]
      have z : seen.testBit p = false := by
        cases q : seen.testBit p
        · rfl
        · exact absurd (Or.inl q) hc
      have y : c (32 + 9 * (p : Int) + 1) = 1 := Classical.byContradiction (fun x => hc (Or.inr x))
      have hn := zsum_nn (f := fun q => zb (cAlike c (p : Int) q = true)) (j := (c 2).toNat) (k := 0) (fun r _ _ => by have := zb01 (cAlike c (p : Int) r = true); omega)
      have hfac : fcI (zsum (fun q => zb (cAlike c (p : Int) q = true)) (c 2).toNat 0) = zpr (fun q => if cAlike c (p : Int) q = true then rkA c q else 1) s ((p + 1 : Nat) : Int) := by
        obtain ⟨x, ex⟩ := Int.eq_ofNat_of_zero_le hn
        have h1 := cls_fac (c := c) (p := (p : Int)) (c 2).toNat
        rw [ex, Int.toNat_natCast] at h1
        rw [ex, fcI_fac, ← h1, show (c 2).toNat = (p + 1) + s by omega, zpr_app, cls_fac (p + 1)]
        have h2 := hg1 z y
        unfold rkA at h2
        rw [Int.toNat_natCast] at h2
        rw [h2, show fac (1 : Int).toNat = 1 from rfl, Int.one_mul, Int.zero_add]
      have hbit : ∀ q : Nat, q < (c 2).toNat → (seen ||| zmask (fun q => decide (p ≤ q) && cAlike c (p : Int) (q : Int)) (c 2).toNat).testBit q = (seen.testBit q || (decide (p ≤ q) && cAlike c (p : Int) (q : Int))) := fun q hq => by
        rw [Nat.testBit_or, zmask_bit, decide_eq_true hq, Bool.true_and]
      have hmul : zpr (gSn c seen) s ((p + 1 : Nat) : Int) * zpr (fun q => if cAlike c (p : Int) q = true then rkA c q else 1) s ((p + 1 : Nat) : Int) = zpr (gSn c (seen ||| zmask (fun q => decide (p ≤ q) && cAlike c (p : Int) (q : Int)) (c 2).toNat)) s ((p + 1 : Nat) : Int) := by
        rw [← zpr_mul]
        refine zpr_congr (fun q q0 q1 => ?_)
        obtain ⟨k, rfl⟩ := Int.eq_ofNat_of_zero_le (show 0 ≤ q by omega)
        unfold gSn
        rw [Int.toNat_natCast, hbit k (by omega), decide_eq_true (show p ≤ k by omega), Bool.true_and]
        by_cases a : cAlike c (p : Int) (k : Int) = true
        · have b : seen.testBit k = false := by
            cases w : seen.testBit k
            · rfl
            · obtain ⟨r, r1, r2⟩ := (hs k (by omega) (by omega)).mp w
              have := (hs p (Nat.le_refl _) (by omega)).mpr ⟨r, r1, alike_tr r2 (alike_sy a)⟩
              rw [this] at z
              cases z
          rw [if_pos a, a, b, if_neg (by decide), if_pos (by decide), Int.one_mul]
        · rw [if_neg a, Int.mul_one, show cAlike c (p : Int) (k : Int) = false by simpa using a, Bool.or_false]
      have hb2 := sOrd_bd (seen := seen ||| zmask (fun q => decide (p ≤ q) && cAlike c (p : Int) (q : Int)) (c 2).toNat) (s := s) (p := p + 1) hw (by omega) hT hV (fun q q0 q1 w => by
        rw [hbit q q1, Bool.or_eq_true, Bool.and_eq_true] at w
        rcases w with w | w
        · exact vx q (by omega) q1 w
        · exact (cAlike_iff.mp w.2).1.2.1)
      rw [hfac, Int.mul_assoc, hmul, w64_id (by omega)]
      refine sOrd_is hw hT hV s (p + 1) _ _ (by omega) (fun q q0 q1 => ?_) rfl
      rw [hbit q q1, decide_eq_true (show p ≤ q by omega), Bool.true_and, Bool.or_eq_true, hs q (by omega) q1]
      constructor
      · rintro (⟨r, r1, r2⟩ | w)
        · exact ⟨r, by omega, r2⟩
        · exact ⟨p, by omega, w⟩
      · rintro ⟨r, r1, r2⟩
        by_cases e : r = p
        · rw [e] at r2; exact Or.inr r2
        · exact Or.inl ⟨r, by omega, r2⟩
theorem sOrd_oTh {c : Int → Int} (hw : wfC c) (hT : cPre c (c 2).toNat ≤ 12) (hV : zsum (fun p => zb (c (32 + 9 * p + 1) = 1)) (c 2).toNat 0 ≤ 5) : sOrd c (c 2).toNat 0 0 1 = oTh c (c 2).toNat ∧ 0 ≤ oTh c (c 2).toNat ∧ oTh c (c 2).toNat ≤ 2147483647 := by
  have hc2 := hw.2.2.1
  refine ⟨sOrd_is hw hT hV (c 2).toNat 0 0 1 (by omega) (fun q _ _ => ⟨fun z => (by rw [Nat.zero_testBit] at z; cases z), fun ⟨r, r1, _⟩ => (by omega)⟩) ?_, ?_, ?_⟩
  · show (1 : Int) = 1 * _
    rw [Int.one_mul]
    exact (zpr_1 (fun i _ _ => by unfold gSn; rw [Nat.zero_testBit, if_neg (by decide)])).symm
  · exact (oTh_bd hw (c 2).toNat (by omega) hT hV).1
  · have := (oTh_bd hw (c 2).toNat (by omega) hT hV).2
    omega
