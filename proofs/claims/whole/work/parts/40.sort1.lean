/-! rows that hold the same numbers; sorted rows -/
def pCnt (P : Int → Bool) (f : Int → Int) (n : Nat) : Int := zsum (fun i => zb (P (f i) = true)) n 0
/-- the same numbers, each as often -/
def pm (f g : Int → Int) (n : Nat) : Prop := ∀ P : Int → Bool, pCnt P f n = pCnt P g n
def srt (f : Int → Int) (n : Nat) : Prop := ∀ i j : Int, 0 ≤ i → i ≤ j → j < n → f i ≤ f j
theorem pm_rf {f : Int → Int} {n : Nat} : pm f f n := fun _ => rfl
theorem pm_sy {f g : Int → Int} {n : Nat} (h : pm f g n) : pm g f n := fun P => (h P).symm
theorem pm_tr {f g k : Int → Int} {n : Nat} (h1 : pm f g n) (h2 : pm g k n) : pm f k n := fun P => (h1 P).trans (h2 P)
theorem pm_eq {f g : Int → Int} {n : Nat} (h : ∀ i : Int, 0 ≤ i → i < n → f i = g i) : pm f g n := fun P => zsum_congr (fun i q1 q2 => by rw [h i q1 (by omega)])
/-- one place changes -/
theorem pCnt_u {P : Int → Bool} {f : Int → Int} {n : Nat} {i x : Int} (h0 : 0 ≤ i) (hn : i < n) : pCnt P (fun k => if k = i then x else f k) n = pCnt P f n - zb (P (f i) = true) + zb (P x = true) := by
  obtain ⟨a, rfl⟩ : ∃ a : Nat, i = (a : Int) := ⟨i.toNat, by omega⟩
  unfold pCnt
  rw [show n = a + (1 + (n - 1 - a)) by omega, zsum_app, zsum_app, zsum_app, zsum_app]
  rw [zsum_congr (g := fun k => zb (P (f k) = true)) (j := a) (fun k q1 q2 => by simp only [if_neg (show ¬ k = (a : Int) by omega)])]
  rw [zsum_congr (g := fun k => zb (P (f k) = true)) (j := n - 1 - a) (fun k q1 q2 => by simp only [if_neg (show ¬ k = (a : Int) by omega)])]
  simp only [zsum_s, zsum_0, Int.zero_add, Int.add_zero, if_true]
  omega
/-- two places change their numbers -/
theorem pm_swap {f : Int → Int} {n : Nat} {i j : Int} (hi : 0 ≤ i) (hi2 : i < n) (hj : 0 ≤ j) (hj2 : j < n) : pm (fun k => if k = j then f i else if k = i then f j else f k) f n := by
  intro P
  by_cases e : i = j
  · subst e
    exact pm_eq (fun k _ _ => by (try dsimp only); split <;> simp_all) P
  · rw [pCnt_u (f := fun k => if k = i then f j else f k) hj hj2, pCnt_u hi hi2]
    simp only [if_neg (fun q => e q.symm : ¬ j = i)]
    omega
theorem zsum_le {f g : Int → Int} : ∀ {j : Nat} {k : Int}, (∀ i, k ≤ i → i < k + j → f i ≤ g i) → zsum f j k ≤ zsum g j k
  | 0, _, _ => Int.le_refl _
  | j + 1, k, h => by
    have h1 := h k (by omega) (by omega)
    have h2 := zsum_le (f := f) (g := g) (j := j) (k := k + 1) (fun i q1 q2 => h i (by omega) (by omega))
    rw [zsum_s, zsum_s]; omega
theorem srt_le {f g : Int → Int} {n : Nat} (hf : srt f n) (hg : srt g n) (h : pm f g n) {i : Int} (h0 : 0 ≤ i) (hn : i < n) : ¬ f i < g i := by
  intro hlt
  obtain ⟨a, rfl⟩ : ∃ a : Nat, i = (a : Int) := ⟨i.toNat, by omega⟩
  have hc : zsum (fun i => zb (decide (f i ≤ f a) = true)) n 0 = zsum (fun i => zb (decide (g i ≤ f a) = true)) n 0 := h (fun v => decide (v ≤ f a))
  have hF := zsum_app (fun i => zb (decide (f i ≤ f a) = true)) (a + 1) (n - 1 - a) 0
  rw [show a + 1 + (n - 1 - a) = n by omega] at hF
  have hG := zsum_app (fun i => zb (decide (g i ≤ f a) = true)) a (n - a) 0
  rw [show a + (n - a) = n by omega] at hG
  have e1 : zsum (fun i => zb (decide (f i ≤ f a) = true)) (a + 1) 0 = zsum (fun _ => 1) (a + 1) 0 := zsum_congr (fun k q1 q2 => zb_t (by simpa using hf k a q1 (by omega) (by omega)))
  have e2 : zsum (fun i => zb (decide (g i ≤ f a) = true)) (n - a) (0 + (a : Int)) = 0 := zsum_z (fun k q1 q2 => zb_f (by have := hg a k (by omega) (by omega) (by omega); simp; omega))
  have e3 : zsum (fun i => zb (decide (g i ≤ f a) = true)) a 0 ≤ zsum (fun _ => 1) a 0 := zsum_le (fun k _ _ => by have := zb01 (decide (g k ≤ f a) = true); omega)
  have e4 : 0 ≤ zsum (fun i => zb (decide (f i ≤ f a) = true)) (n - 1 - a) (0 + ((a + 1 : Nat) : Int)) := (zsum_bd (b := 1) (fun k _ _ => by have := zb01 (decide (f k ≤ f a) = true); omega)).1
  have key : ∀ (j : Nat) (k : Int), zsum (fun _ => 1) j k = j := by
    intro j
    induction j with
    | zero => intro k; rfl
    | succ j ih => intro k; rw [zsum_s, ih]; omega
  rw [hF, hG, e1, e2, key] at hc
  rw [key] at e3
  omega
theorem srt_uniq {f g : Int → Int} {n : Nat} (hf : srt f n) (hg : srt g n) (h : pm f g n) {i : Int} (h0 : 0 ≤ i) (hn : i < n) : f i = g i := by
  have h1 := srt_le hf hg h h0 hn
  have h2 := srt_le hg hf (pm_sy h) h0 hn
  omega
theorem srt_adj {f : Int → Int} {n : Nat} (h : ∀ i : Int, 0 ≤ i → i + 1 < n → f i ≤ f (i + 1)) : srt f n := by
  have key : ∀ (d : Nat) (i : Int), 0 ≤ i → i + d < n → f i ≤ f (i + d) := by
    intro d
    induction d with
    | zero => intro i _ _; simp
    | succ d ih =>
      intro i h0 hn
      have h1 := ih i h0 (by omega)
      have h2 := h (i + d) (by omega) (by omega)
      rw [show i + ((d + 1 : Nat) : Int) = i + d + 1 by omega]
      omega
  intro i j h0 hij hj
  have := key (j - i).toNat i h0 (by omega)
  rw [show i + (((j - i).toNat : Nat) : Int) = j by omega] at this
  exact this
/-- codes of ten bits behind one another -/
def sPk (f : Int → Int) : Nat → Int
  | 0 => 0
  | n + 1 => sPk f n * 1024 + f n
theorem sPk_congr {f g : Int → Int} : ∀ {n : Nat}, (∀ i : Int, 0 ≤ i → i < n → f i = g i) → sPk f n = sPk g n
  | 0, _ => rfl
  | n + 1, h => by
    unfold sPk
    rw [sPk_congr (n := n) (fun i q1 q2 => h i q1 (by omega)), h n (by omega) (by omega)]
theorem sPk_bd {f : Int → Int} : ∀ {n : Nat}, (∀ i : Int, 0 ≤ i → i < n → 0 ≤ f i ∧ f i < 1024) → 0 ≤ sPk f n ∧ sPk f n < 1024 ^ n
  | 0, _ => by simp [sPk]
  | n + 1, h => by
    have h1 := sPk_bd (n := n) (fun i q1 q2 => h i q1 (by omega))
    have h2 := h n (by omega) (by omega)
    unfold sPk
    rw [Int.pow_succ]
    omega
theorem sPk_at {f : Int → Int} : ∀ {n : Nat}, (∀ i : Int, 0 ≤ i → i < n → 0 ≤ f i ∧ f i < 1024) → ∀ k : Nat, k < n → sPk f n / 1024 ^ (n - 1 - k) % 1024 = f k
  | 0, _, k, hk => by omega
  | n + 1, h, k, hk => by
    have h2 := h n (by omega) (by omega)
    by_cases e : k = n
    · subst e
      rw [show k + 1 - 1 - k = 0 by omega]
      unfold sPk
      rw [Int.pow_zero, Int.ediv_one]
      omega
    · have ih := sPk_at (n := n) (fun i q1 q2 => h i q1 (by omega)) k (by omega)
      rw [show n + 1 - 1 - k = (n - 1 - k) + 1 by omega, Int.pow_succ, Int.mul_comm, ← Int.ediv_ediv_of_nonneg (by omega)]
      unfold sPk
      rw [show (sPk f n * 1024 + f n) / 1024 = sPk f n by omega]
      exact ih
/-- the key of a row: its numbers, sorted, as one -/
noncomputable def sKey (f : Int → Int) (n : Nat) : Int := @dite _ (∃ v : Int, ∃ g, srt g n ∧ pm g f n ∧ v = sPk g n) (Classical.propDecidable _) (fun h => Classical.choose h) (fun _ => 0)
theorem sKey_eq {f g : Int → Int} {n : Nat} (h1 : srt g n) (h2 : pm g f n) : sKey f n = sPk g n := by
  have he : ∃ v : Int, ∃ g, srt g n ∧ pm g f n ∧ v = sPk g n := ⟨_, g, h1, h2, rfl⟩
  unfold sKey
  rw [dif_pos he]
  obtain ⟨k, h3, h4, h5⟩ := Classical.choose_spec he
  rw [h5]
  exact sPk_congr (fun i q1 q2 => srt_uniq h3 h1 (pm_tr h4 (pm_sy h2)) q1 q2)
