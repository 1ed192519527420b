theorem l_sorts_in (d : Nat) {E : zE} {m : zM} (A len : Int) (sA : E.1 A = (1, len)) (n : Nat) (hnl : (n : Int) ≤ len) (hlen : len ≤ 20) {P : Option zV → zM → Prop} (k : Nat) (hk : (k : Int) < n) (v : Int) (hP : ∀ m2, zfr [(A, none)] m m2 → (∀ x, (x < 0 ∨ (n : Int) ≤ x) → m2 A x = m A x) → pm (m2 A) (m A) n → srt (m2 A) (k + 1) → zA zX12_sorts d E E P 50 [zP A, zI (n : Nat), zI (k : Nat), zN, zN] [] m2 E) : ∀ (j : Nat) (m1 : zM), j ≤ k → zfr [(A, none)] m m1 → (∀ x, (x < 0 ∨ (n : Int) ≤ x) → m1 A x = m A x) → (pm (fun x => if x = (j : Int) then v else m1 A x) (m A) n ∧ (∀ x y : Int, 0 ≤ x → x ≤ y → y ≤ k → x ≠ (j : Int) → y ≠ (j : Int) → m1 A x ≤ m1 A y) ∧ ∀ y : Int, (j : Int) < y → y ≤ k → v < m1 A y) → zA zX12_sorts d E E P 14 [zP A, zI (n : Nat), zI (k : Nat), zI v, zI (j : Nat)] [] m1 E := by
  intro j
  induction j with
  | zero =>
    intro m1 hj hf hx0 hI
    refine z_iload dX12_sorts_14 rfl ?_
    refine z_if_le (tgt := 45) dX12_sorts_16 rfl (fun h16 => ?_) (fun h => absurd (by omega) h)
    refine z_aload_n dX12_sorts_45 rfl ?_
    refine z_iload dX12_sorts_46 rfl ?_
    refine z_iload_n dX12_sorts_48 rfl ?_
    refine z_iast dX12_sorts_49 sA (by omega) (by omega) ?_
    refine zA_wk [_, _, _, zN, zN] (by exact ⟨Or.inr rfl, Or.inr rfl, Or.inr rfl, Or.inl rfl, Or.inl rfl, trivial⟩) ?_
    refine hP _ (zfr_ua hf (by simp)) (fun x hx => by rw [zu_j (by omega)]; exact hx0 x hx) ?_ ?_
    · rw [show zu m1 A ((0 : Nat) : Int) v A = (fun x => if x = ((0 : Nat) : Int) then v else m1 A x) by funext x; simp [zu]]
      exact hI.1
    · intro x y q1 q2 q3
      rw [show zu m1 A ((0 : Nat) : Int) v A = (fun x => if x = ((0 : Nat) : Int) then v else m1 A x) by funext x; simp [zu]]
      dsimp only
      by_cases ex : x = ((0 : Nat) : Int)
      · by_cases ey : y = ((0 : Nat) : Int)
        · rw [if_pos ex, if_pos ey]; omega
        · rw [if_pos ex, if_neg ey]
          have := hI.2.2 y (by omega) (by omega)
          omega
      · rw [if_neg ex]
        by_cases ey : y = ((0 : Nat) : Int)
        · rw [if_pos ey]
          omega
        · rw [if_neg ey]
          exact hI.2.1 x y q1 q2 (by omega) ex ey
  | succ j ih =>
    intro m1 hj hf hx0 hI
    refine z_iload dX12_sorts_14 rfl ?_
    refine z_if_le (tgt := 45) dX12_sorts_16 rfl (fun h => absurd h (by omega)) (fun h16 => ?_)
    refine z_aload_n dX12_sorts_19 rfl ?_
    refine z_iload dX12_sorts_20 rfl ?_
    refine z_iconst dX12_sorts_22 (by decide) ?_
    refine z_sub dX12_sorts_23 (by omega) ?_
    rw [show ((j + 1 : Nat) : Int) - 1 = (j : Int) by omega]
    refine z_iald dX12_sorts_24 sA (by omega) (by omega) ?_
    refine z_iload_n dX12_sorts_25 rfl ?_
    refine z_icmp_le (tgt := 45) dX12_sorts_26 rfl (fun h26 => ?_) (fun h26 => ?_)
    · refine z_aload_n dX12_sorts_45 rfl ?_
      refine z_iload dX12_sorts_46 rfl ?_
      refine z_iload_n dX12_sorts_48 rfl ?_
      refine z_iast dX12_sorts_49 sA (by omega) (by omega) ?_
      refine zA_wk [_, _, _, zN, zN] (by exact ⟨Or.inr rfl, Or.inr rfl, Or.inr rfl, Or.inl rfl, Or.inl rfl, trivial⟩) ?_
      refine hP _ (zfr_ua hf (by simp)) (fun x hx => by rw [zu_j (by omega)]; exact hx0 x hx) ?_ ?_
      · rw [show zu m1 A ((j + 1 : Nat) : Int) v A = (fun x => if x = ((j + 1 : Nat) : Int) then v else m1 A x) by funext x; simp [zu]]
        exact hI.1
      · intro x y q1 q2 q3
        rw [show zu m1 A ((j + 1 : Nat) : Int) v A = (fun x => if x = ((j + 1 : Nat) : Int) then v else m1 A x) by funext x; simp [zu]]
        dsimp only
        by_cases ex : x = ((j + 1 : Nat) : Int)
        · by_cases ey : y = ((j + 1 : Nat) : Int)
          · rw [if_pos ex, if_pos ey]; omega
          · rw [if_pos ex, if_neg ey]
            have := hI.2.2 y (by omega) (by omega)
            omega
        · rw [if_neg ex]
          by_cases ey : y = ((j + 1 : Nat) : Int)
          · rw [if_pos ey]
            have h1 := hI.2.1 x j q1 (by omega) (by omega) ex (by omega)
            omega
          · rw [if_neg ey]
            exact hI.2.1 x y q1 q2 (by omega) ex ey
    · refine z_aload_n dX12_sorts_29 rfl ?_
      refine z_iload dX12_sorts_30 rfl ?_
      refine z_aload_n dX12_sorts_32 rfl ?_
      refine z_iload dX12_sorts_33 rfl ?_
      refine z_iconst dX12_sorts_35 (by decide) ?_
      refine z_sub dX12_sorts_36 (by omega) ?_
      rw [show ((j + 1 : Nat) : Int) - 1 = (j : Int) by omega]
      refine z_iald dX12_sorts_37 sA (by omega) (by omega) ?_
      refine z_iast dX12_sorts_38 sA (by omega) (by omega) ?_
      refine z_inc dX12_sorts_39 rfl (by omega) ?_
      refine z_goto (tgt := 14) dX12_sorts_42 rfl ?_
      try dsimp only [zs0, zsI, zsP, zsN, zsJ, zsS, zst2, Nat.reduceAdd]
      rw [show ((j + 1 : Nat) : Int) + -1 = (j : Int) by omega]
      refine ih _ (by omega) (zfr_ua hf (by simp)) (fun x hx => by rw [zu_j (by omega)]; exact hx0 x hx) ⟨?_, ?_, ?_⟩
      · refine pm_tr ?_ hI.1
        refine pm_tr (pm_eq (g := fun x => if x = ((j + 1 : Nat) : Int) then ((fun x => if x = ((j + 1 : Nat) : Int) then v else m1 A x)) (j : Int) else if x = (j : Int) then ((fun x => if x = ((j + 1 : Nat) : Int) then v else m1 A x)) ((j + 1 : Nat) : Int) else ((fun x => if x = ((j + 1 : Nat) : Int) then v else m1 A x)) x) (fun x q1 q2 => ?_)) (pm_swap (f := (fun x => if x = ((j + 1 : Nat) : Int) then v else m1 A x)) (i := (j : Int)) (j := ((j + 1 : Nat) : Int)) (by omega) (by omega) (by omega) (by omega))
        dsimp only
        by_cases e1 : x = (j : Int)
        · rw [if_pos e1, if_neg (by omega), if_pos e1, if_pos rfl]
        · rw [if_neg e1]
          by_cases e2 : x = ((j + 1 : Nat) : Int)
          · rw [if_pos e2, e2, zu_s, if_neg (by omega)]
          · rw [if_neg e2, if_neg e1, if_neg e2, zu_j e2]
      · intro x y q1 q2 q3 q4 q5
        by_cases e1 : x = ((j + 1 : Nat) : Int)
        · by_cases e2 : y = ((j + 1 : Nat) : Int)
          · rw [e1, e2]; omega
          · rw [e1, zu_s, zu_j e2]
            exact hI.2.1 j y (by omega) (by omega) q3 (by omega) e2
        · rw [zu_j e1]
          by_cases e2 : y = ((j + 1 : Nat) : Int)
          · rw [e2, zu_s]
            exact hI.2.1 x j q1 (by omega) (by omega) e1 (by omega)
          · rw [zu_j e2]
            exact hI.2.1 x y q1 q2 q3 e1 e2
      · intro y q1 q2
        by_cases e2 : y = ((j + 1 : Nat) : Int)
        · rw [e2, zu_s]; omega
        · rw [zu_j e2]; exact hI.2.2 y (by omega) q2

theorem l_sorts (d : Nat) {E : zE} {m : zM} (A len : Int) (sA : E.1 A = (1, len)) (n : Nat) (hnl : (n : Int) ≤ len) (hlen : len ≤ 20) {P : Option zV → zM → Prop} (hP : ∀ m2, zfr [(A, none)] m m2 → (∀ x, (x < 0 ∨ (n : Int) ≤ x) → m2 A x = m A x) → pm (m2 A) (m A) n → srt (m2 A) n → P none m2) : ∀ (j k : Nat) (m1 : zM), 1 ≤ k → (k + j = n ∨ (j = 0 ∧ n ≤ k)) → zfr [(A, none)] m m1 → (∀ x, (x < 0 ∨ (n : Int) ≤ x) → m1 A x = m A x) → pm (m1 A) (m A) n → srt (m1 A) k → zA zX12_sorts d E E P 2 [zP A, zI (n : Nat), zI (k : Nat), zN, zN] [] m1 E := by
  intro j
  induction j with
  | zero =>
    intro k m1 h1 hk hf hx0 hpm hs
    refine z_iload_n dX12_sorts_2 rfl ?_
    refine z_iload_n dX12_sorts_3 rfl ?_
    refine z_icmp_ge (tgt := 56) dX12_sorts_4 rfl (fun h4 => ?_) (fun h => absurd (by omega) h)
    refine z_vret dX12_sorts_56 rfl rfl ?_
    exact hP m1 hf hx0 hpm (fun x y q1 q2 q3 => hs x y q1 q2 (by omega))
  | succ j ih =>
    intro k m1 h1 hk hf hx0 hpm hs
    refine z_iload_n dX12_sorts_2 rfl ?_
    refine z_iload_n dX12_sorts_3 rfl ?_
    refine z_icmp_ge (tgt := 56) dX12_sorts_4 rfl (fun h => absurd h (by omega)) (fun h4 => ?_)
    refine z_aload_n dX12_sorts_7 rfl ?_
    refine z_iload_n dX12_sorts_8 rfl ?_
    refine z_iald dX12_sorts_9 sA (by omega) (by omega) ?_
    refine z_ist 3 dX12_sorts_10 rfl (Nat.le_of_ble_eq_true rfl) ?_
    refine z_iload_n dX12_sorts_11 rfl ?_
    refine z_istore dX12_sorts_12 (Nat.le_of_ble_eq_true rfl) ?_
    try dsimp only [zs0, zsI, zsP, zsN, zsJ, zsS, zst2, Nat.reduceAdd]
    refine l_sorts_in d A len sA n hnl hlen k (by omega) (m1 A k) (fun m2 p1 p2 p3 p4 => ?_) k m1 (Nat.le_refl _) hf hx0 ⟨?_, ?_, ?_⟩
    · refine z_inc dX12_sorts_50 rfl (by omega) ?_
      refine z_goto (tgt := 2) dX12_sorts_53 rfl ?_
      try dsimp only [zs0, zsI, zsP, zsN, zsJ, zsS, zst2, Nat.reduceAdd]
      rw [show (k : Int) + 1 = ((k + 1 : Nat) : Int) by omega]
      exact ih (k + 1) m2 (by omega) (by omega) p1 p2 p3 p4
    · refine pm_tr (pm_eq (fun x q1 q2 => ?_)) hpm
      try dsimp only
      split
      · rename_i e; rw [e]
      · rfl
    · intro x y q1 q2 q3 q4 q5
      exact hs x y q1 q2 (by omega)
    · intro y q1 q2; omega

theorem r_sorts (d : Nat) {E : zE} {m : zM} (A len : Int) (sA : E.1 A = (1, len)) (n : Nat) (hnl : (n : Int) ≤ len) (hlen : len ≤ 20) : zR zX12_sorts d [zP A, zI (n : Nat)] m E E (fun r m2 => r = none ∧ zfr [(A, none)] m m2 ∧ (∀ x, (x < 0 ∨ (n : Int) ≤ x) → m2 A x = m A x) ∧ pm (m2 A) (m A) n ∧ srt (m2 A) n) := by
  refine zR_go [zP A, zI (n : Nat), zN, zN, zN] (by decide +kernel) (Nat.le_of_ble_eq_true rfl) rfl rfl ?_
  refine z_iconst dX12_sorts_0 (by decide) ?_
  refine z_ist 2 dX12_sorts_1 rfl (Nat.le_of_ble_eq_true rfl) ?_
  try dsimp only [zs0, zsI, zsP, zsN, zsJ, zsS, zst2, Nat.reduceAdd]
  refine l_sorts d A len sA n hnl hlen (fun m2 p1 p2 p3 p4 => ⟨rfl, p1, p2, p3, p4⟩) (n - 1) 1 m (by omega) (by omega) zfr_rf (fun _ _ => rfl) pm_rf (fun x y q1 q2 q3 => by rw [show x = y by omega]; omega)
