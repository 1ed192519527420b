/-! products of ranks are products of factorials -/
def zpr (F : Int → Int) : Nat → Int → Int
  | 0, _ => 1
  | j + 1, k => F k * zpr F j (k + 1)
theorem zpr_congr {F G : Int → Int} : ∀ {j : Nat} {k : Int}, (∀ i, k ≤ i → i < k + j → F i = G i) → zpr F j k = zpr G j k
  | 0, _, _ => rfl
  | j + 1, k, h => by
    show F k * zpr F j (k + 1) = G k * zpr G j (k + 1)
    rw [h k (by omega) (by omega), zpr_congr (fun i h1 h2 => h i (by omega) (by omega))]
theorem zpr_up {F G : Int → Int} {a x : Int} : ∀ {j : Nat} {k : Int}, k ≤ x → x < k + j → (∀ i, k ≤ i → i < k + j → i ≠ x → G i = F i) → G x = a * F x → zpr G j k = a * zpr F j k
  | 0, k, h0, h1, _, _ => by omega
  | j + 1, k, h0, h1, h, hx => by
    show G k * zpr G j (k + 1) = a * (F k * zpr F j (k + 1))
    by_cases e : k = x
    · rw [e, hx, zpr_congr (F := G) (G := F) (fun i i0 i1 => h i (by omega) (by omega) (by omega)), Int.mul_assoc]
    · rw [h k (Int.le_refl _) (by omega) e, zpr_up (j := j) (k := k + 1) (by omega) (by omega) (fun i i0 i1 => h i (by omega) (by omega)) hx, ← Int.mul_assoc, ← Int.mul_assoc, Int.mul_comm (F k) a]
theorem zpr_1 {F : Int → Int} : ∀ {j : Nat} {k : Int}, (∀ i, k ≤ i → i < k + j → F i = 1) → zpr F j k = 1
  | 0, _, _ => rfl
  | j + 1, k, h => by
    show F k * zpr F j (k + 1) = 1
    rw [h k (by omega) (by omega), zpr_1 (fun i h1 h2 => h i (by omega) (by omega))]
    rfl
/-- like letters of a point, counted by kinds -/
def kC (c : Int → Int) (p : Int) (i : Nat) (w : Int) : Nat := (zsum (fun j => zb (c (32 + 9 * p + 3 + j) = w)) i 0).toNat
theorem kC_s (c : Int → Int) (p : Int) (i : Nat) (w : Int) : kC c p (i + 1) w = kC c p i w + (zb (c (32 + 9 * p + 3 + (i : Int)) = w)).toNat := by
  have h1 : 0 ≤ zsum (fun j => zb (c (32 + 9 * p + 3 + j) = w)) i 0 := zsum_nn (fun j _ _ => by have := zb01 (c (32 + 9 * p + 3 + j) = w); omega)
  have h2 := zb01 (c (32 + 9 * p + 3 + (i : Int)) = w)
  unfold kC
  rw [zsum_app, zsum_s, zsum_0, Int.zero_add, Int.add_zero]
  omega
theorem oPt_is {c : Int → Int} {p : Int} {s : Nat} (h : ∀ k : Int, 0 ≤ k → k < s → 0 ≤ c (32 + 9 * p + 3 + k) ∧ c (32 + 9 * p + 3 + k) < 12) : ∀ i : Nat, i ≤ s → oPt c p i = zpr (fun w => fac (kC c p i w)) 12 0
  | 0, _ => (zpr_1 (fun w _ _ => rfl)).symm
  | i + 1, hi => by
    have hx := h (i : Int) (by omega) (by omega)
    have hn : 0 ≤ zsum (fun j => zb (c (32 + 9 * p + 3 + j) = c (32 + 9 * p + 3 + (i : Int)))) i 0 := zsum_nn (fun j _ _ => by have := zb01 (c (32 + 9 * p + 3 + j) = c (32 + 9 * p + 3 + (i : Int))); omega)
    have e := zpr_up (F := fun w => fac (kC c p i w)) (G := fun w => fac (kC c p (i + 1) w)) (a := 1 + zsum (fun j => zb (c (32 + 9 * p + 3 + j) = c (32 + 9 * p + 3 + (i : Int)))) i 0) (x := c (32 + 9 * p + 3 + (i : Int))) (j := 12) (k := 0) hx.1 (by omega) (fun w _ _ hw => by
      show fac (kC c p (i + 1) w) = fac (kC c p i w)
      rw [kC_s, zb_f (Ne.symm hw)]
      rfl) (by
      show fac (kC c p (i + 1) _) = _ * fac (kC c p i _)
      rw [kC_s, zb_t rfl]
      show ((kC c p i (c (32 + 9 * p + 3 + (i : Int))) : Nat) + 1 : Int) * fac (kC c p i (c (32 + 9 * p + 3 + (i : Int)))) = _
      congr 1
      unfold kC
      omega)
    rw [e]
    show oPt c p i * _ = _
    rw [oPt_is h i (by omega), Int.mul_comm]
theorem sFac_fac : ∀ k : Nat, ((sFac k : Nat) : Int) = fac k
  | 0 => rfl
  | k + 1 => by
    show (((k + 1) * sFac k : Nat) : Int) = ((k : Int) + 1) * fac k
    rw [← sFac_fac k, Int.natCast_mul]
    rfl
theorem fcI_fac (k : Nat) : fcI (k : Int) = fac k := by
  unfold fcI
  by_cases e : k = 0
  · rw [e]; rfl
  · rw [if_neg (by omega), Int.toNat_natCast, sFac_fac]
theorem zpr_ge {G : Int → Int} : ∀ {j : Nat} {k : Int}, (∀ i, 1 ≤ G i) → 1 ≤ zpr G j k
  | 0, _, _ => Int.le_refl _
  | j + 1, k, h => by
    show 1 ≤ G k * zpr G j (k + 1)
    have := Int.mul_le_mul (h k) (zpr_ge (j := j) (k := k + 1) h) (by decide) (by have := h k; omega)
    omega
theorem zfd_pr {G : Int → Int} (hG : ∀ i, 1 ≤ G i) : ∀ (j : Nat) (k v : Int), 0 ≤ v → v * zpr G j k < 9223372036854775808 → zfd (fun w v => w64 (v * G w)) j k v = v * zpr G j k
  | 0, k, v, _, _ => by
    show v = v * 1
    omega
  | j + 1, k, v, h0, h => by
    have hp := zpr_ge (G := G) (j := j) (k := k + 1) hG
    have hg := hG k
    have e : v * zpr G (j + 1) k = v * G k * zpr G j (k + 1) := by
      show v * (G k * zpr G j (k + 1)) = _
      rw [Int.mul_assoc]
    have n1 := Int.mul_nonneg h0 (show 0 ≤ G k by omega)
    have le := Int.mul_le_mul_of_nonneg_left hp n1
    rw [e] at h
    rw [Int.mul_one] at le
    show zfd (fun w v => w64 (v * G w)) j (k + 1) (w64 (v * G k)) = _
    rw [w64_id (by omega), zfd_pr hG j (k + 1) _ n1 h, e]
/-- the letters' part of a point -/
theorem zfd_oPt {c : Int → Int} (hw : wfC c) {p v : Int} (p0 : 0 ≤ p) (p1 : p < c 2) (v0 : 0 ≤ v) (hv : v * oPt c p (c (32 + 9 * p)).toNat < 9223372036854775808) : zfd (fun w v => w64 (v * fcI (sCw c p w))) 12 0 v = v * oPt c p (c (32 + 9 * p)).toNat := by
  have hp := hw.2.2.2.2.2 p p0 p1
  have hc0 := hw.1
  have e : oPt c p (c (32 + 9 * p)).toNat = zpr (fun w => fcI (sCw c p w)) 12 0 := by
    rw [oPt_is (s := (c (32 + 9 * p)).toNat) (fun k k0 k1 => by have := hp.2.2.2 k k0 (by omega); omega) _ (Nat.le_refl _)]
    refine zpr_congr (fun w _ _ => ?_)
    have hn : 0 ≤ sCw c p w := zsum_nn (fun j _ _ => by have := zb01 (c (32 + 9 * p + 3 + j) = w); omega)
    rw [← fcI_fac]
    congr 1
    unfold kC
    unfold sCw at hn ⊢
    omega
  rw [e] at hv ⊢
  refine zfd_pr (fun i => ?_) 12 0 v v0 hv
  have hn : 0 ≤ sCw c p i := zsum_nn (fun j _ _ => by have := zb01 (c (32 + 9 * p + 3 + j) = i); omega)
  rw [show sCw c p i = (((sCw c p i).toNat : Nat) : Int) by omega, fcI_fac]
  exact fac_1 _
