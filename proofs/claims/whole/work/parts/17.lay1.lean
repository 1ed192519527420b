/-! how many pairings there can be; how rows of pairings are laid into memory -/
theorem zsum_app (f : Int → Int) : ∀ (a b : Nat) (k : Int), zsum f (a + b) k = zsum f a k + zsum f b (k + a)
  | 0, b, k => by simp [zsum]
  | a + 1, b, k => by
    rw [show a + 1 + b = (a + b) + 1 by omega, zsum_s, zsum_s, zsum_app f a b (k + 1)]
    rw [show k + 1 + (a : Int) = k + ((a + 1 : Nat) : Int) by omega]
    omega
theorem zsum_z {f : Int → Int} : ∀ {j : Nat} {k : Int}, (∀ i, k ≤ i → i < k + j → f i = 0) → zsum f j k = 0
  | 0, _, _ => rfl
  | j + 1, k, h => by rw [zsum_s, h k (by omega) (by omega), zsum_z (fun i h1 h2 => h i (by omega) (by omega))]; rfl
theorem zsum_sub (f g : Int → Int) : ∀ (j : Nat) (k : Int), zsum (fun i => f i - g i) j k = zsum f j k - zsum g j k
  | 0, _ => rfl
  | j + 1, k => by simp only [zsum_s, zsum_sub f g j (k + 1)]; omega
theorem zsum_ind {x : Int} : ∀ {j : Nat} {k : Int}, k ≤ x → x < k + j → zsum (fun i => zb (i = x)) j k = 1
  | 0, k, h1, h2 => by omega
  | j + 1, k, h1, h2 => by
    rw [zsum_s]
    by_cases h : k = x
    · rw [zb_t h, zsum_z (fun i q1 q2 => zb_f (by omega))]; rfl
    · rw [zb_f h, zsum_ind (by omega) (by omega)]; rfl
/-- free letters among n -/
def sFr (mt : Int → Int) (n : Nat) : Int := zsum (fun i => zb (mt i < 0)) n 0
theorem sFr_nn (mt : Int → Int) (n : Nat) : 0 ≤ sFr mt n ∧ sFr mt n ≤ n := by
  have := zsum_bd (f := fun i => zb (mt i < 0)) (b := 1) (j := n) (k := 0) (fun i _ _ => by have := zb01 (mt i < 0); omega)
  unfold sFr; omega
theorem sFst_lt {mt : Int → Int} {n : Nat} (h : ¬ sFst mt n < 0) : 0 ≤ sFst mt n ∧ sFst mt n < n ∧ mt (sFst mt n) < 0 ∧ ∀ i, 0 ≤ i → i < sFst mt n → ¬ mt i < 0 := by
  rcases zfst_ge (p := fun i => decide (mt i < 0)) (j := n) (k := 0) (by omega) with ⟨h1, -⟩ | ⟨h1, h2, h3, h4⟩
  · unfold sFst at h; omega
  · refine ⟨h1, by unfold sFst; omega, by unfold sFst; simpa using h3, fun i q1 q2 => by simpa using h4 i q1 q2⟩
theorem sFst_no {mt : Int → Int} {n : Nat} (h : sFst mt n < 0) : ∀ i : Int, 0 ≤ i → i < n → ¬ mt i < 0 := by
  rcases zfst_ge (p := fun i => decide (mt i < 0)) (j := n) (k := 0) (by omega) with ⟨h1, h2⟩ | ⟨h1, -⟩
  · intro i q1 q2; simpa using h2 i q1 (by omega)
  · unfold sFst at h; omega
theorem sFr_split {mt : Int → Int} {n : Nat} (h : ¬ sFst mt n < 0) : sFr mt n = 1 + zsum (fun i => zb (mt i < 0)) (n - 1 - (sFst mt n).toNat) (sFst mt n + 1) := by
  obtain ⟨h1, h2, h3, h4⟩ := sFst_lt h
  obtain ⟨a, ha⟩ : ∃ a : Nat, sFst mt n = (a : Int) := ⟨(sFst mt n).toNat, by omega⟩
  unfold sFr
  rw [ha] at h2 h3 h4 ⊢
  rw [show n = a + (1 + (n - 1 - (a : Int).toNat)) by omega, zsum_app, zsum_z (fun i q1 q2 => zb_f (h4 i q1 (by omega))), zsum_app]
  rw [show zsum (fun i => zb (mt i < 0)) 1 (0 + (a : Int)) = 1 by rw [zsum_s, zsum_0, zb_t (by rw [Int.zero_add]; exact h3)]; rfl]
  rw [show 0 + (a : Int) + ((1 : Nat) : Int) = (a : Int) + 1 by omega, show a + (1 + (n - 1 - (a : Int).toNat)) - 1 - (a : Int).toNat = n - 1 - (a : Int).toNat by omega]
  omega
theorem sFr_up {mt : Int → Int} {n : Nat} {i j : Int} (hi : 0 ≤ i) (hi2 : i < n) (hj : 0 ≤ j) (hj2 : j < n) (hij : i ≠ j) (h1 : mt i < 0) (h2 : mt j < 0) : sFr (sUp mt i j) n = sFr mt n - 2 := by
  unfold sFr
  have e : zsum (fun x => zb (sUp mt i j x < 0)) n 0 = zsum (fun x => (fun x => zb (mt x < 0) - zb (x = i)) x - zb (x = j)) n 0 := by
    apply zsum_congr
    intro x q1 q2
    show zb (sUp mt i j x < 0) = zb (mt x < 0) - zb (x = i) - zb (x = j)
    by_cases hxj : x = j
    · have hv : sUp mt i j x = i := if_pos hxj
      rw [zb_f (show ¬ sUp mt i j x < 0 by rw [hv]; omega), zb_t hxj, zb_f (show ¬ x = i by omega), zb_t (show mt x < 0 by rw [hxj]; exact h2)]; rfl
    · by_cases hxi : x = i
      · have hv : sUp mt i j x = j := by unfold sUp; rw [if_neg hxj, if_pos hxi]
        rw [zb_f (show ¬ sUp mt i j x < 0 by rw [hv]; omega), zb_f hxj, zb_t hxi, zb_t (show mt x < 0 by rw [hxi]; exact h1)]; rfl
      · have hv : sUp mt i j x = mt x := by unfold sUp; rw [if_neg hxj, if_neg hxi]
        rw [zb_f hxj, zb_f hxi]
        by_cases hx : mt x < 0
        · rw [zb_t hx, zb_t (show sUp mt i j x < 0 by rw [hv]; exact hx)]; rfl
        · rw [zb_f hx, zb_f (show ¬ sUp mt i j x < 0 by rw [hv]; exact hx)]; rfl
  rw [e, zsum_sub, zsum_sub, zsum_ind hi (by omega), zsum_ind hj (by omega)]
  omega
def sCnt : Nat → Nat
  | 0 => 1
  | 1 => 0
  | f + 2 => (f + 1) * sCnt f
theorem sCat_len {α : Type} {g : Int → List α} {mt : Int → Int} {b : Nat} : ∀ {s : Nat} {k : Int}, (∀ j, k ≤ j → j < k + s → (g j).length ≤ b ∧ (¬ mt j < 0 → g j = [])) → ((sCat g s k).length : Int) ≤ zsum (fun i => zb (mt i < 0)) s k * b
  | 0, _, _ => by simp [sCat, zsum]
  | s + 1, k, h => by
    have h1 := h k (by omega) (by omega)
    have h2 := sCat_len (g := g) (mt := mt) (b := b) (s := s) (k := k + 1) (fun j q1 q2 => h j (by omega) (by omega))
    simp only [sCat, List.length_append, zsum_s, Int.add_mul]
    by_cases hm : mt k < 0
    · rw [zb_t hm]; omega
    · rw [zb_f hm, h1.2 hm]; simp; omega
theorem sLay_len {n : Nat} {may : Int → Int → Bool} : ∀ (u : Nat) (mt : Int → Int), (sLay n may u mt).length ≤ sCnt (sFr mt n).toNat
  | 0, mt => by
    unfold sLay
    split
    · rename_i h
      have : sFr mt n = 0 := zsum_z (fun i q1 q2 => zb_f (sFst_no h i q1 (by omega)))
      rw [this]; simp [sCnt]
    · simp
  | u + 1, mt => by
    unfold sLay
    split
    · rename_i h
      have : sFr mt n = 0 := zsum_z (fun i q1 q2 => zb_f (sFst_no h i q1 (by omega)))
      rw [this]; simp [sCnt]
    · rename_i h
      obtain ⟨h1, h2, h3, h4⟩ := sFst_lt h
      have hs := sFr_split h
      have hz := zsum_bd (f := fun i => zb (mt i < 0)) (b := 1) (j := n - 1 - (sFst mt n).toNat) (k := sFst mt n + 1) (fun i _ _ => by have := zb01 (mt i < 0); omega)
      have key := sCat_len (g := fun j => if mt j < 0 ∧ may (sFst mt n) j = true then sLay n may u (sUp mt (sFst mt n) j) else []) (mt := mt) (b := sCnt ((sFr mt n).toNat - 2)) (s := n - 1 - (sFst mt n).toNat) (k := sFst mt n + 1) (fun j q1 q2 => by
        constructor
        · split
          · rename_i hj
            have := sLay_len (n := n) (may := may) u (sUp mt (sFst mt n) j)
            rw [sFr_up h1 h2 (by omega) (by omega) (by omega) h3 hj.1] at this
            rw [show (sFr mt n).toNat - 2 = (sFr mt n - 2).toNat by omega]
            exact this
          · simp
        · intro hj; exact if_neg (fun q => hj q.1))
      by_cases h5 : sFr mt n = 1
      · rw [show zsum (fun i => zb (mt i < 0)) (n - 1 - (sFst mt n).toNat) (sFst mt n + 1) = 0 by omega] at key
        omega
      · obtain ⟨f, hf⟩ : ∃ f : Nat, sFr mt n = (f : Int) + 2 := ⟨(sFr mt n - 2).toNat, by omega⟩
        rw [show (sFr mt n).toNat = f + 2 by omega]
        rw [show zsum (fun i => zb (mt i < 0)) (n - 1 - (sFst mt n).toNat) (sFst mt n + 1) = ((f + 1 : Nat) : Int) by omega, show (sFr mt n).toNat - 2 = f by omega] at key
        show _ ≤ (f + 1) * sCnt f
        exact_mod_cast key
theorem sCnt_le : ∀ f, f ≤ 12 → sCnt f ≤ 10395 := by
  intro f h
  have : ∀ f, f < 13 → sCnt f ≤ 10395 := by decide +kernel
  exact this f (by omega)
theorem sLay_le {n : Nat} (hn : n ≤ 12) (may : Int → Int → Bool) (u : Nat) (mt : Int → Int) : (sLay n may u mt).length ≤ 10395 :=
  Nat.le_trans (sLay_len u mt) (sCnt_le _ (by have := sFr_nn mt n; omega))
theorem zu_fn {m : zM} {a j x b : Int} (h : b ≠ a) : zu m a j x b = m b := by funext i; exact zu_a h

