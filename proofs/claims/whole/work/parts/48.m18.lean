theorem hp_max {f : Int → Int} {n : Nat} (h : hp f 0 n) : ∀ i : Nat, i < n → f i ≤ f 0 := by
  intro i
  induction i using Nat.strongRecOn with
  | ind i ih =>
    intro hi
    by_cases e : i = 0
    · rw [e]; exact Int.le_refl _
    · have h1 := ih ((i - 1) / 2) (by omega) (by omega)
      have h2 := h ((i - 1) / 2) (by omega)
      rcases Nat.mod_two_eq_zero_or_one (i - 1) with h3 | h3
      · have h4 := h2.1 (by omega)
        rw [show 2 * ((i - 1) / 2) + 1 = i by omega] at h4
        omega
      · have h4 := h2.2 (by omega)
        rw [show 2 * ((i - 1) / 2) + 2 = i by omega] at h4
        omega
theorem pm_ext {f g : Int → Int} {k n : Nat} (h : pm f g k) (hk : k ≤ n) (he : ∀ x : Int, (k : Int) ≤ x → x < n → f x = g x) : pm f g n := by
  intro P
  unfold pCnt
  rw [show n = k + (n - k) by omega, zsum_app, zsum_app, zsum_congr (f := fun i => zb (P (f i) = true)) (g := fun i => zb (P (g i) = true)) (j := n - k) (k := 0 + (k : Int)) (fun i q1 q2 => by rw [he i (by omega) (by omega)])]
  have := h P
  unfold pCnt at this
  rw [this]
theorem l_sorts1 (d : Nat) {E : zE} {m : zM} (A len : Int) (sA : E.1 A = (2, len)) (n : Nat) (hnl : (n : Int) ≤ len) (hlen : len ≤ 20000) {P : Option zV → zM → Prop} (hP : ∀ m2, (zfr [(A, none)] m m2 ∧ (∀ x : Int, (x < 0 ∨ (n : Int) ≤ x) → m2 A x = m A x) ∧ pm (m2 A) (m A) n) → hp (m2 A) 0 n → zA zX12_sorts_ (d + 1) E E P 20 [zP A, zI (n : Nat), zN, zN, zN] [] m2 E) : ∀ (j : Nat) (m1 : zM), j ≤ n + 1 → (zfr [(A, none)] m m1 ∧ (∀ x : Int, (x < 0 ∨ (n : Int) ≤ x) → m1 A x = m A x) ∧ pm (m1 A) (m A) n) → hp (m1 A) j n → zA zX12_sorts_ (d + 1) E E P 4 [zP A, zI (n : Nat), zI ((j : Int) - 1), zN, zN] [] m1 E := by
  intro j
  induction j with
  | zero =>
    intro m1 hj hI hh
    refine z_iload_n dX12_sorts__4 rfl ?_
    refine z_if_lt (tgt := 20) dX12_sorts__5 rfl (fun h5 => ?_) (fun h => absurd (by omega) h)
    refine zA_wk [_, _, zN, zN, zN] (by exact ⟨Or.inr rfl, Or.inr rfl, Or.inl rfl, Or.inl rfl, Or.inl rfl, trivial⟩) ?_
    exact hP m1 hI hh
  | succ j ih =>
    intro m1 hj hI hh
    rw [show ((j + 1 : Nat) : Int) - 1 = (j : Int) by omega]
    refine z_iload_n dX12_sorts__4 rfl ?_
    refine z_if_lt (tgt := 20) dX12_sorts__5 rfl (fun h => absurd h (by omega)) (fun h5 => ?_)
    refine z_aload_n dX12_sorts__8 rfl ?_
    refine z_iload_n dX12_sorts__9 rfl ?_
    refine z_iload_n dX12_sorts__10 rfl ?_
    refine z_callS mlX12_245 dX12_sorts__11 (av := [_, _, _]) rfl rfl (Nat.le_of_ble_eq_true rfl) (r_sinks _ A len sA n hnl hlen j (by omega) hh) (Nat.le_refl _) (Nat.le_refl _) (Nat.le_refl _) (Nat.le_refl _) ?_
    rintro _ m2 ⟨rfl, p1, p2, p3, p4⟩
    refine z_inc dX12_sorts__14 rfl (by omega) ?_
    refine z_goto (tgt := 4) dX12_sorts__17 rfl ?_
    try dsimp only [zs0, zsI, zsP, zsN, zsJ, zsS, zst2, Nat.reduceAdd]
    rw [show (j : Int) + -1 = (j : Int) - 1 by omega]
    exact ih m2 (by omega) ⟨zfr_tr hI.1 p1, fun x hx => (p2 x hx).trans (hI.2.1 x hx), pm_tr p3 hI.2.2⟩ p4

theorem l_sorts2 (d : Nat) {E : zE} {m : zM} (A len : Int) (sA : E.1 A = (2, len)) (n : Nat) (hnl : (n : Int) ≤ len) (hlen : len ≤ 20000) {P : Option zV → zM → Prop} (hP : ∀ m2, (zfr [(A, none)] m m2 ∧ (∀ x : Int, (x < 0 ∨ (n : Int) ≤ x) → m2 A x = m A x) ∧ pm (m2 A) (m A) n) → srt (m2 A) n → zA zX12_sorts_ (d + 1) E E P 54 [zP A, zI (n : Nat), zN, zN, zN] [] m2 E) : ∀ (j : Nat) (m1 : zM), ((j : Int) < n ∨ (j = 0 ∧ n = 0)) → (zfr [(A, none)] m m1 ∧ (∀ x : Int, (x < 0 ∨ (n : Int) ≤ x) → m1 A x = m A x) ∧ pm (m1 A) (m A) n) → hp (m1 A) 0 (j + 1) → (∀ x y : Int, 0 ≤ x → x ≤ y → (j : Int) < y → y < n → m1 A x ≤ m1 A y) → zA zX12_sorts_ (d + 1) E E P 24 [zP A, zI (n : Nat), zI (j : Nat), zN, zN] [] m1 E := by
  intro j
  induction j with
  | zero =>
    intro m1 hj hI hh hT
    refine z_iload_n dX12_sorts__24 rfl ?_
    refine z_if_le (tgt := 54) dX12_sorts__25 rfl (fun h25 => ?_) (fun h => absurd (by omega) h)
    refine zA_wk [_, _, zN, zN, zN] (by exact ⟨Or.inr rfl, Or.inr rfl, Or.inl rfl, Or.inl rfl, Or.inl rfl, trivial⟩) ?_
    refine hP m1 hI (fun x y q1 q2 q3 => ?_)
    by_cases e : x = y
    · rw [e]; omega
    · exact hT x y q1 q2 (by omega) q3
  | succ j ih =>
    intro m1 hj hI hh hT
    have hmx := hp_max hh
    refine z_iload_n dX12_sorts__24 rfl ?_
    refine z_if_le (tgt := 54) dX12_sorts__25 rfl (fun h => absurd h (by omega)) (fun h25 => ?_)
    refine z_aload_n dX12_sorts__28 rfl ?_
    refine z_iconst dX12_sorts__29 (by decide) ?_
    refine z_lald dX12_sorts__30 sA (by omega) (by omega) ?_
    refine z_lst 3 dX12_sorts__31 rfl (Nat.le_of_ble_eq_true rfl) ?_
    refine z_aload_n dX12_sorts__32 rfl ?_
    refine z_iconst dX12_sorts__33 (by decide) ?_
    refine z_aload_n dX12_sorts__34 rfl ?_
    refine z_iload_n dX12_sorts__35 rfl ?_
    refine z_lald dX12_sorts__36 sA (by omega) (by omega) ?_
    refine z_last dX12_sorts__37 sA (by omega) (by omega) ?_
    refine z_aload_n dX12_sorts__38 rfl ?_
    refine z_iload_n dX12_sorts__39 rfl ?_
    refine z_lload_n dX12_sorts__40 rfl ?_
    refine z_last dX12_sorts__41 sA (by omega) (by omega) ?_
    try dsimp only [zs0, zsI, zsP, zsN, zsJ, zsS, zst2, Nat.reduceAdd]
    have hfn := zu_swap (m1 := m1) (A := A) (i := 0) (j := ((j + 1 : Nat) : Int)) (by omega)
    have hh2 : hp ((zu (zu m1 A 0 (m1 A ((j + 1 : Nat) : Int))) A ((j + 1 : Nat) : Int) (m1 A 0)) A) (0 + 1) (j + 1) := by
      intro i hi
      have hi2 := hh i (by omega)
      rw [hfn]
      refine ⟨fun q => ?_, fun q => ?_⟩
      · dsimp only
        rw [if_neg (by omega), if_neg (by omega), if_neg (by omega), if_neg (by omega)]
        exact hi2.1 (by omega)
      · dsimp only
        rw [if_neg (by omega), if_neg (by omega), if_neg (by omega), if_neg (by omega)]
        exact hi2.2 (by omega)
    refine z_aload_n dX12_sorts__42 rfl ?_
    refine z_iconst dX12_sorts__43 (by decide) ?_
    refine z_iload_n dX12_sorts__44 rfl ?_
    refine z_callS mlX12_245 dX12_sorts__45 (av := [_, _, _]) rfl rfl (Nat.le_of_ble_eq_true rfl) (r_sinks _ A len sA (j + 1) (by omega) hlen 0 (by omega) hh2) (Nat.le_refl _) (Nat.le_refl _) (Nat.le_refl _) (Nat.le_refl _) ?_
    rintro _ m2 ⟨rfl, p1, p2, p3, p4⟩
    refine z_inc dX12_sorts__48 rfl (by omega) ?_
    refine z_goto (tgt := 24) dX12_sorts__51 rfl ?_
    try dsimp only [zs0, zsI, zsP, zsN, zsJ, zsS, zst2, Nat.reduceAdd]
    refine zA_wk [_, _, _, zN, zN] (by exact ⟨Or.inr rfl, Or.inr rfl, Or.inr rfl, Or.inl rfl, Or.inl rfl, trivial⟩) ?_
    rw [show ((j + 1 : Nat) : Int) + -1 = (j : Int) by omega]
    have hk : m2 A ((j + 1 : Nat) : Int) = m1 A 0 := by rw [p2 _ (by omega), zu_s]
    have hle : ∀ x : Int, 0 ≤ x → x < ((j + 1 : Nat) : Int) → m2 A x ≤ m1 A 0 := pm_all (P := fun v => v ≤ m1 A 0) (pm_sy p3) (fun i q1 q2 => by
      rw [hfn]
      dsimp only
      rw [if_neg (by omega)]
      split
      · exact hmx (j + 1) (by omega)
      · have := hmx i.toNat (by omega); rw [show ((i.toNat : Nat) : Int) = i by omega] at this; exact this)
    refine ih m2 (by omega) ⟨zfr_tr (zfr_ua (zfr_ua hI.1 (by simp)) (by simp)) p1, fun x hx => ?_, ?_⟩ p4 (fun x y q1 q2 q3 q4 => ?_)
    · rw [p2 x (by omega), zu_j (by omega), zu_j (by omega)]; exact hI.2.1 x hx
    · refine pm_tr (pm_ext p3 (by omega) (fun x a1 a2 => p2 x (by omega))) (pm_tr ?_ hI.2.2)
      rw [hfn]
      exact pm_swap (by omega) (by omega) (by omega) (by omega)
    · have hy2 : ∀ z : Int, ((j + 1 : Nat) : Int) < z → z < n → m2 A z = m1 A z := fun z z1 z2 => by rw [p2 z (by omega), zu_j (by omega), zu_j (by omega)]
      by_cases e : y = ((j + 1 : Nat) : Int)
      · rw [e, hk]
        by_cases e2 : x = ((j + 1 : Nat) : Int)
        · rw [e2, hk]; omega
        · exact hle x q1 (by omega)
      · rw [hy2 y (by omega) q4]
        by_cases e2 : x < ((j + 1 : Nat) : Int)
        · have a := hle x q1 e2
          have b := hT 0 y (by omega) (by omega) (by omega) q4
          omega
        · by_cases e3 : x = ((j + 1 : Nat) : Int)
          · rw [e3, hk]; exact hT 0 y (by omega) (by omega) (by omega) q4
          · rw [hy2 x (by omega) (by omega)]; exact hT x y q1 q2 (by omega) q4
