/-- rising, each once -/
def sInc (f : Int → Int) (n : Nat) : Prop := ∀ x y : Int, 0 ≤ x → x < y → y < n → f x < f y
theorem sInc_le {f : Int → Int} {n : Nat} (h : sInc f n) {x y : Int} (h0 : 0 ≤ x) (hxy : x ≤ y) (hy : y < n) : f x ≤ f y := by
  by_cases e : x = y
  · rw [e]; exact Int.le_refl _
  · have := h x y h0 (by omega) hy; omega
theorem pm_ex {f g : Int → Int} {n : Nat} (h : pm f g n) (v : Int) : (∃ x : Int, 0 ≤ x ∧ x < n ∧ f x = v) ↔ ∃ x : Int, 0 ≤ x ∧ x < n ∧ g x = v := by
  have key : ∀ {f g : Int → Int}, pm f g n → (∃ x : Int, 0 ≤ x ∧ x < n ∧ f x = v) → ∃ x : Int, 0 ≤ x ∧ x < n ∧ g x = v := by
    intro f g h hx
    apply Classical.byContradiction
    intro hn
    obtain ⟨x, a1, a2, a3⟩ := hx
    exact pm_all (P := fun u => u ≠ v) (pm_sy h) (fun i q1 q2 e => hn ⟨i, q1, q2, e⟩) x a1 a2 a3
  exact ⟨key h, key (pm_sy h)⟩
theorem l_sorts3 (d : Nat) {E : zE} {m : zM} (A len : Int) (sA : E.1 A = (2, len)) (n : Nat) (hnl : (n : Int) ≤ len) (hlen : len ≤ 20000) (hs : srt (m A) n) {P : Option zV → zM → Prop} (hP : ∀ (m2 : zM) (many : Nat), many ≤ n → (zfr [(A, none)] m m2 ∧ (∀ x : Int, (x < 0 ∨ (n : Int) ≤ x) → m2 A x = m A x) ∧ sInc (m2 A) many ∧ (∀ v : Int, (∃ x : Int, 0 ≤ x ∧ x < many ∧ m2 A x = v) ↔ ∃ x : Int, 0 ≤ x ∧ x < n ∧ m A x = v) ∧ (0 < n → 0 < many ∧ m2 A ((many : Int) - 1) = m A ((n : Int) - 1))) → P (some (zI (many : Nat))) m2) : ∀ (j k many : Nat) (m1 : zM), k + j = n → many ≤ k → (zfr [(A, none)] m m1 ∧ (∀ x : Int, (x < 0 ∨ (k : Int) ≤ x) → m1 A x = m A x) ∧ sInc (m1 A) many ∧ (∀ v : Int, (∃ x : Int, 0 ≤ x ∧ x < many ∧ m1 A x = v) ↔ ∃ x : Int, 0 ≤ x ∧ x < k ∧ m A x = v) ∧ (0 < k → 0 < many ∧ m1 A ((many : Int) - 1) = m A ((k : Int) - 1))) → zA zX12_sorts_ (d + 1) E E P 58 [zP A, zI (n : Nat), zI (many : Nat), zI (k : Nat), zN] [] m1 E := by
  intro j
  induction j with
  | zero =>
    intro k many m1 hk hm hI
    refine z_iload_n dX12_sorts__58 rfl ?_
    refine z_iload_n dX12_sorts__59 rfl ?_
    refine z_icmp_ge (tgt := 97) dX12_sorts__60 rfl (fun h60 => ?_) (fun h => absurd (by omega) h)
    refine z_iload_n dX12_sorts__97 rfl ?_
    refine z_iret dX12_sorts__98 rfl rfl ?_
    rw [show k = n by omega] at hI
    exact hP m1 many (by omega) hI
  | succ j ih =>
    intro k many m1 hk hm hI
    obtain ⟨i1, i2, i3, i4, i5⟩ := hI
    have hkk : m1 A k = m A k := i2 k (by omega)
    refine z_iload_n dX12_sorts__58 rfl ?_
    refine z_iload_n dX12_sorts__59 rfl ?_
    refine z_icmp_ge (tgt := 97) dX12_sorts__60 rfl (fun h => absurd h (by omega)) (fun h60 => ?_)
    refine z_iload_n dX12_sorts__63 rfl ?_
    refine z_if_le (tgt := 82) dX12_sorts__64 rfl (fun h64 => ?_) (fun h64 => ?_)
    · refine z_aload_n dX12_sorts__82 rfl ?_
      refine z_iload_n dX12_sorts__83 rfl ?_
      refine z_aload_n dX12_sorts__84 rfl ?_
      refine z_iload_n dX12_sorts__85 rfl ?_
      refine z_lald dX12_sorts__86 sA (by omega) (by omega) ?_
      refine z_last dX12_sorts__87 sA (by omega) (by omega) ?_
      refine z_inc dX12_sorts__88 rfl (by omega) ?_
      refine z_inc dX12_sorts__91 rfl (by omega) ?_
      refine z_goto (tgt := 58) dX12_sorts__94 rfl ?_
      try dsimp only [zs0, zsI, zsP, zsN, zsJ, zsS, zst2, Nat.reduceAdd]
      rw [show (k : Int) + 1 = ((k + 1 : Nat) : Int) by omega]
      rw [show (many : Int) + 1 = ((many + 1 : Nat) : Int) by omega]
      have hst : ∀ x : Int, 0 ≤ x → x < many → m1 A x < m A k := fun x a1 a2 => by
        have h6 := i5 (by omega)
        have h8 := hs ((k : Int) - 1) k (by omega) (by omega) (by omega)
        have h9 := sInc_le i3 a1 (show x ≤ (many : Int) - 1 by omega) (by omega)
        omega
      rw [hkk]
      refine ih (k + 1) (many + 1) _ (by omega) (by omega) ⟨zfr_ua i1 (by simp), fun x hx => ?_, ?_, fun v => ?_, fun _ => ⟨by omega, ?_⟩⟩
      · by_cases e : x = (many : Int)
        · rw [e, zu_s]
          have : (many : Int) = k := by omega
          rw [this]
        · rw [zu_j e]; exact i2 x (by omega)
      · intro x y a1 a2 a3
        rw [zu_j (show x ≠ (many : Int) by omega)]
        by_cases e : y = (many : Int)
        · rw [e, zu_s]; exact hst x a1 (by omega)
        · rw [zu_j e]; exact i3 x y a1 a2 (by omega)
      · constructor
        · rintro ⟨x, a1, a2, a3⟩
          by_cases e : x = (many : Int)
          · rw [e, zu_s] at a3; exact ⟨k, by omega, by omega, a3⟩
          · rw [zu_j e] at a3
            obtain ⟨y, b1, b2, b3⟩ := (i4 v).mp ⟨x, a1, by omega, a3⟩
            exact ⟨y, b1, by omega, b3⟩
        · rintro ⟨x, a1, a2, a3⟩
          by_cases e : x = (k : Int)
          · exact ⟨many, by omega, by omega, by rw [zu_s, ← e]; exact a3⟩
          · obtain ⟨y, b1, b2, b3⟩ := (i4 v).mpr ⟨x, a1, by omega, a3⟩
            exact ⟨y, b1, by omega, by rw [zu_j (by omega)]; exact b3⟩
      · rw [show ((many + 1 : Nat) : Int) - 1 = (many : Int) by omega, zu_s, show ((k + 1 : Nat) : Int) - 1 = (k : Int) by omega]
    · refine z_aload_n dX12_sorts__67 rfl ?_
      refine z_iload_n dX12_sorts__68 rfl ?_
      refine z_iconst dX12_sorts__69 (by decide) ?_
      refine z_sub dX12_sorts__70 (by omega) ?_
      refine z_lald dX12_sorts__71 sA (by omega) (by omega) ?_
      refine z_aload_n dX12_sorts__72 rfl ?_
      refine z_iload_n dX12_sorts__73 rfl ?_
      refine z_lald dX12_sorts__74 sA (by omega) (by omega) ?_
      refine z_lcmp dX12_sorts__75 ?_
      refine z_if_ne (tgt := 82) dX12_sorts__76 rfl (fun h76 => ?_) (fun h76 => ?_)
      · refine z_aload_n dX12_sorts__82 rfl ?_
        refine z_iload_n dX12_sorts__83 rfl ?_
        refine z_aload_n dX12_sorts__84 rfl ?_
        refine z_iload_n dX12_sorts__85 rfl ?_
        refine z_lald dX12_sorts__86 sA (by omega) (by omega) ?_
        refine z_last dX12_sorts__87 sA (by omega) (by omega) ?_
        refine z_inc dX12_sorts__88 rfl (by omega) ?_
        refine z_inc dX12_sorts__91 rfl (by omega) ?_
        refine z_goto (tgt := 58) dX12_sorts__94 rfl ?_
        try dsimp only [zs0, zsI, zsP, zsN, zsJ, zsS, zst2, Nat.reduceAdd]
        simp only [ne_eq, zcmp_eq] at h76
        rw [show (k : Int) + 1 = ((k + 1 : Nat) : Int) by omega]
        rw [show (many : Int) + 1 = ((many + 1 : Nat) : Int) by omega]
        have hst : ∀ x : Int, 0 ≤ x → x < many → m1 A x < m A k := fun x a1 a2 => by
          have h6 := i5 (by omega)
          have h8 := hs ((k : Int) - 1) k (by omega) (by omega) (by omega)
          have h9 := sInc_le i3 a1 (show x ≤ (many : Int) - 1 by omega) (by omega)
          omega
        rw [hkk]
        refine ih (k + 1) (many + 1) _ (by omega) (by omega) ⟨zfr_ua i1 (by simp), fun x hx => ?_, ?_, fun v => ?_, fun _ => ⟨by omega, ?_⟩⟩
        · by_cases e : x = (many : Int)
          · rw [e, zu_s]
            have : (many : Int) = k := by omega
            rw [this]
          · rw [zu_j e]; exact i2 x (by omega)
        · intro x y a1 a2 a3
          rw [zu_j (show x ≠ (many : Int) by omega)]
          by_cases e : y = (many : Int)
          · rw [e, zu_s]; exact hst x a1 (by omega)
          · rw [zu_j e]; exact i3 x y a1 a2 (by omega)
        · constructor
          · rintro ⟨x, a1, a2, a3⟩
            by_cases e : x = (many : Int)
            · rw [e, zu_s] at a3; exact ⟨k, by omega, by omega, a3⟩
            · rw [zu_j e] at a3
              obtain ⟨y, b1, b2, b3⟩ := (i4 v).mp ⟨x, a1, by omega, a3⟩
              exact ⟨y, b1, by omega, b3⟩
          · rintro ⟨x, a1, a2, a3⟩
            by_cases e : x = (k : Int)
            · exact ⟨many, by omega, by omega, by rw [zu_s, ← e]; exact a3⟩
            · obtain ⟨y, b1, b2, b3⟩ := (i4 v).mpr ⟨x, a1, by omega, a3⟩
              exact ⟨y, b1, by omega, by rw [zu_j (by omega)]; exact b3⟩
        · rw [show ((many + 1 : Nat) : Int) - 1 = (many : Int) by omega, zu_s, show ((k + 1 : Nat) : Int) - 1 = (k : Int) by omega]
      · refine z_goto (tgt := 91) dX12_sorts__79 rfl ?_
        refine z_inc dX12_sorts__91 rfl (by omega) ?_
        refine z_goto (tgt := 58) dX12_sorts__94 rfl ?_
        try dsimp only [zs0, zsI, zsP, zsN, zsJ, zsS, zst2, Nat.reduceAdd]
        simp only [ne_eq, zcmp_eq, Classical.not_not] at h76
        rw [show (k : Int) + 1 = ((k + 1 : Nat) : Int) by omega]
        have hk0 : 0 < k := by omega
        have h7 := (i5 hk0).2
        refine ih (k + 1) many m1 (by omega) (by omega) ⟨i1, fun x hx => i2 x (by omega), i3, fun v => ?_, fun _ => ⟨by omega, ?_⟩⟩
        · rw [i4 v]
          constructor
          · rintro ⟨x, a1, a2, a3⟩; exact ⟨x, a1, by omega, a3⟩
          · rintro ⟨x, a1, a2, a3⟩
            by_cases e : x = (k : Int)
            · exact ⟨(k : Int) - 1, by omega, by omega, by rw [← h7, h76, hkk, ← e]; exact a3⟩
            · exact ⟨x, a1, by omega, a3⟩
        · rw [show ((k + 1 : Nat) : Int) - 1 = (k : Int) by omega, h76]; exact hkk

theorem r_sorts_ (d : Nat) {E : zE} {m : zM} (A len : Int) (sA : E.1 A = (2, len)) (n : Nat) (hnl : (n : Int) ≤ len) (hlen : len ≤ 20000) : zR zX12_sorts_ (d + 1) [zP A, zI (n : Nat)] m E E (fun r m2 => ∃ many : Nat, r = some (zI (many : Nat)) ∧ zfr [(A, none)] m m2 ∧ (∀ x : Int, (x < 0 ∨ (n : Int) ≤ x) → m2 A x = m A x) ∧ many ≤ n ∧ sInc (m2 A) many ∧ ∀ v : Int, (∃ x : Int, 0 ≤ x ∧ x < many ∧ m2 A x = v) ↔ ∃ x : Int, 0 ≤ x ∧ x < n ∧ m A x = v) := by
  refine zR_go [zP A, zI (n : Nat), zN, zN, zN] (by decide +kernel) (Nat.le_of_ble_eq_true rfl) rfl rfl ?_
  refine z_iload_n dX12_sorts__0 rfl ?_
  refine z_iconst dX12_sorts__1 (by decide) ?_
  refine z_div dX12_sorts__2 (by omega) (by omega) ?_
  refine z_ist 2 dX12_sorts__3 rfl (Nat.le_of_ble_eq_true rfl) ?_
  try dsimp only [zs0, zsI, zsP, zsN, zsJ, zsS, zst2, Nat.reduceAdd]
  rw [show (n : Int) / 2 = ((n / 2 + 1 : Nat) : Int) - 1 by omega]
  refine l_sorts1 d A len sA n hnl hlen (fun m2 k2 hh2 => ?_) (n / 2 + 1) m (by omega) ⟨zfr_rf, fun _ _ => rfl, pm_rf⟩ (fun i hi => ⟨fun q => by omega, fun q => by omega⟩)
  refine z_iload_n dX12_sorts__20 rfl ?_
  refine z_iconst dX12_sorts__21 (by decide) ?_
  refine z_sub dX12_sorts__22 (by omega) ?_
  refine z_ist 2 dX12_sorts__23 rfl (Nat.le_of_ble_eq_true rfl) ?_
  try dsimp only [zs0, zsI, zsP, zsN, zsJ, zsS, zst2, Nat.reduceAdd]
  refine zA_wk [_, _, _, zN, zN] (by exact ⟨Or.inr rfl, Or.inr rfl, Or.inr rfl, Or.inl rfl, Or.inl rfl, trivial⟩) ?_
  have key : ∀ m3, (zfr [(A, none)] m m3 ∧ (∀ x : Int, (x < 0 ∨ (n : Int) ≤ x) → m3 A x = m A x) ∧ pm (m3 A) (m A) n) → srt (m3 A) n → zA zX12_sorts_ (d + 1) E E (fun r m2 => ∃ many : Nat, r = some (zI (many : Nat)) ∧ zfr [(A, none)] m m2 ∧ (∀ x : Int, (x < 0 ∨ (n : Int) ≤ x) → m2 A x = m A x) ∧ many ≤ n ∧ sInc (m2 A) many ∧ ∀ v : Int, (∃ x : Int, 0 ≤ x ∧ x < many ∧ m2 A x = v) ↔ ∃ x : Int, 0 ≤ x ∧ x < n ∧ m A x = v) 54 [zP A, zI (n : Nat), zN, zN, zN] [] m3 E := by
    intro m3 k3 hs3
    refine z_iconst dX12_sorts__54 (by decide) ?_
    refine z_ist 2 dX12_sorts__55 rfl (Nat.le_of_ble_eq_true rfl) ?_
    refine z_iconst dX12_sorts__56 (by decide) ?_
    refine z_ist 3 dX12_sorts__57 rfl (Nat.le_of_ble_eq_true rfl) ?_
    try dsimp only [zs0, zsI, zsP, zsN, zsJ, zsS, zst2, Nat.reduceAdd]
    exact l_sorts3 d A len sA n hnl hlen hs3 (fun m4 many hmn hI4 => ⟨many, rfl, zfr_tr k3.1 hI4.1, fun x hx => (hI4.2.1 x hx).trans (k3.2.1 x hx), hmn, hI4.2.2.1, fun v => (hI4.2.2.2.1 v).trans (pm_ex k3.2.2 v)⟩) n 0 0 m3 (by omega) (by omega) ⟨zfr_rf, fun _ _ => rfl, fun x y a1 a2 a3 => by omega, fun v => ⟨fun ⟨x, a1, a2, _⟩ => by omega, fun ⟨x, a1, a2, _⟩ => by omega⟩, fun q => by omega⟩
  by_cases hn0 : n = 0
  · subst hn0
    refine z_iload_n dX12_sorts__24 rfl ?_
    refine z_if_le (tgt := 54) dX12_sorts__25 rfl (fun _ => ?_) (fun h => absurd (by omega) h)
    refine zA_wk [_, _, zN, zN, zN] (by exact ⟨Or.inr rfl, Or.inr rfl, Or.inl rfl, Or.inl rfl, Or.inl rfl, trivial⟩) ?_
    exact key m2 k2 (fun x y a1 a2 a3 => by omega)
  · rw [show (n : Int) - 1 = ((n - 1 : Nat) : Int) by omega]
    refine l_sorts2 d A len sA n hnl hlen key (n - 1) m2 (by omega) k2 (by rw [show n - 1 + 1 = n by omega]; exact hh2) (fun x y a1 a2 a3 a4 => by omega)
