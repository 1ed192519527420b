def tC (g : Int → Int) (k : Nat) (u : Int) : Int := zsum (fun i => zb (g i = u)) k 0
theorem tC_s (g : Int → Int) (k : Nat) (u : Int) : tC g (k + 1) u = tC g k u + zb (g (k : Int) = u) := by
  unfold tC
  rw [zsum_app, zsum_s, zsum_0, Int.zero_add, Int.add_zero]
theorem tC_bd (g : Int → Int) (k : Nat) (u : Int) : 0 ≤ tC g k u ∧ tC g k u ≤ k := by
  have h1 : 0 ≤ tC g k u := zsum_nn (fun i _ _ => by have := zb01 (g i = u); omega)
  have h2 : tC g k u ≤ zsum (fun _ => 1) k 0 := zsum_le (fun i _ _ => by have := zb01 (g i = u); omega)
  rw [zsum_k1] at h2
  exact ⟨h1, h2⟩
theorem tC_no {g : Int → Int} {k : Nat} {u : Int} (h : ∀ i : Int, 0 ≤ i → i < k → g i ≠ u) : tC g k u = 0 := zsum_z (fun i i0 i1 => zb_f (h i i0 (by omega)))
theorem tC_mono {g : Int → Int} {u : Int} {a b : Nat} (h : a ≤ b) : tC g a u ≤ tC g b u := by
  induction b with
  | zero => rw [show a = 0 by omega]; exact Int.le_refl _
  | succ b ih =>
    by_cases e : a = b + 1
    · rw [e]; exact Int.le_refl _
    · have := ih (by omega)
      rw [tC_s]
      have := zb01 (g (b : Int) = u)
      omega
theorem mx_fd {F : Int → Int} : ∀ (s : Nat) (k v : Int), v ≤ zfd (fun k v => if v < F k then F k else v) s k v ∧ (∀ i, k ≤ i → i < k + s → F i ≤ zfd (fun k v => if v < F k then F k else v) s k v) ∧ (zfd (fun k v => if v < F k then F k else v) s k v = v ∨ ∃ i, k ≤ i ∧ i < k + s ∧ zfd (fun k v => if v < F k then F k else v) s k v = F i)
  | 0, k, v => ⟨Int.le_refl _, fun i h1 h2 => by omega, Or.inl rfl⟩
  | s + 1, k, v => by
    have ih := mx_fd (F := F) s (k + 1) (if v < F k then F k else v)
    show v ≤ zfd _ s (k + 1) (if v < F k then F k else v) ∧ (∀ i, k ≤ i → i < k + (s + 1 : Nat) → F i ≤ zfd _ s (k + 1) (if v < F k then F k else v)) ∧ (zfd _ s (k + 1) (if v < F k then F k else v) = v ∨ ∃ i, k ≤ i ∧ i < k + (s + 1 : Nat) ∧ zfd _ s (k + 1) (if v < F k then F k else v) = F i)
    generalize zfd (fun k v => if v < F k then F k else v) s (k + 1) (if v < F k then F k else v) = z at *
    obtain ⟨h1, h2, h3⟩ := ih
    refine ⟨by split at h1 <;> omega, fun i i0 i1 => ?_, ?_⟩
    · by_cases e : i = k
      · rw [e]; split at h1 <;> omega
      · exact h2 i (by omega) (by omega)
    · rcases h3 with h3 | ⟨i, i0, i1, i2⟩
      · split at h3
        · exact Or.inr ⟨k, Int.le_refl _, by omega, h3⟩
        · exact Or.inl h3
      · exact Or.inr ⟨i, by omega, by omega, i2⟩
theorem tMo_is {g : Int → Int} {h : Nat} {mo : Int} (h1 : ∀ u, tC g h u ≤ mo) (h2 : mo = 0 ∨ ∃ k2 : Nat, k2 < h ∧ mo ≤ tC g h (g (k2 : Int))) (h0 : 0 ≤ mo) : mo = tMo h g := by
  obtain ⟨a1, a2, a3⟩ := mx_fd (F := fun k => tC g h (g k)) h 0 0
  have e : tMo h g = zfd (fun k v => if v < (fun k => tC g h (g k)) k then (fun k => tC g h (g k)) k else v) h 0 0 := rfl
  rw [e]
  generalize zfd (fun k v => if v < (fun k => tC g h (g k)) k then (fun k => tC g h (g k)) k else v) h 0 0 = z at *
  have lo : mo ≤ z := by
    rcases h2 with y | ⟨k, k1, k2⟩
    · omega
    · have := a2 (k : Int) (by omega) (by omega)
      omega
  have hi : z ≤ mo := by
    rcases a3 with y | ⟨i, i0, i1, i2⟩
    · omega
    · rw [i2]; exact h1 _
  omega
theorem l_thick (d : Nat) {E : zE} {m : zM} {P : Option zV → zM → Prop} (o b cap : Int) (so : E.1 o = (6, 20)) (sb : shDg E b cap) (b0 : 0 < b) (qb : qDg m o b) (dd p v : Int) (d0 : 0 ≤ dd) (d1 : dd < cap) (hp : m (b + 5) dd = p) (p0 : 0 ≤ p) (p1 : p < cap) (hv : m b p = v) (h : Nat) (h6 : h ≤ 6) (q14 : m o 14 = (h : Int)) (g : Int → Int) (hg : ∀ i : Int, 0 ≤ i → i < h → 0 ≤ g i ∧ g i < 1024) (ev : v = sPk g h) (hs : srt g h) : ∀ (j : Nat) (k : Nat) (mo sm : Int), (k + j = h) → ((0 ≤ sm ∧ sm ≤ k) ∧ (0 < k → sm = tC g k (g ((k - 1 : Nat) : Int)))) → (∀ u, tC g k u ≤ mo) → (mo = 0 ∨ ∃ k2 : Nat, k2 < k ∧ mo ≤ tC g h (g (k2 : Int))) → (0 ≤ mo ∧ mo ≤ k) → (P (some (zI (tMo h g))) m) → zA zX0_thickest (d + 2) E E P 7 [zP o, zI dd, zI mo, zI sm, zI (k : Nat)] [] m E := by
  intro j
  induction j with
  | zero =>
    intro k mo sm hj hsm hmo hat hmr hP
    refine z_iload dX0_thickest_7 rfl ?_
    refine z_aload_n dX0_thickest_9 rfl ?_
    refine z_gIv 14 rfl flX0_79 dX0_thickest_10 so rfl q14 ?_
    refine z_icmp_ge (tgt := 60) dX0_thickest_13 rfl (fun h13 => ?_) (fun h => absurd (by omega) h)
    refine z_iload_n dX0_thickest_60 rfl ?_
    refine z_iret dX0_thickest_61 rfl rfl ?_
    rw [← tMo_is (by rw [show k = h by omega] at hmo; exact hmo) (by rcases hat with z | ⟨k2, z1, z2⟩; exact Or.inl z; exact Or.inr ⟨k2, by omega, z2⟩) hmr.1] at hP
    exact hP
  | succ j ih =>
    intro k mo sm hj hsm hmo hat hmr hP
    refine z_iload dX0_thickest_7 rfl ?_
    refine z_aload_n dX0_thickest_9 rfl ?_
    refine z_gIv 14 rfl flX0_79 dX0_thickest_10 so rfl q14 ?_
    refine z_icmp_ge (tgt := 60) dX0_thickest_13 rfl (fun h => absurd h (by omega)) (fun h13 => ?_)
    refine z_iload dX0_thickest_16 rfl ?_
    refine z_if_le (tgt := 46) dX0_thickest_18 rfl (fun h18 => ?_) (fun h18 => ?_)
    · refine z_iconst dX0_thickest_46 (by decide) ?_
      refine z_ist 3 dX0_thickest_47 rfl (Nat.le_of_ble_eq_true rfl) ?_
      refine z_iload_n dX0_thickest_48 rfl ?_
      refine z_iload_n dX0_thickest_49 rfl ?_
      try dsimp only [zs0, zsI, zsP, zsN, zsJ, zsS, zst2, Nat.reduceAdd]
      refine z_max (zg5 54 (by decide +kernel) rfl) dX0_thickest_50 (Nat.le_of_ble_eq_true rfl) (Nat.le_refl _) (Nat.le_refl _) ?_
      refine z_ist 2 dX0_thickest_53 rfl (Nat.le_of_ble_eq_true rfl) ?_
      refine z_inc dX0_thickest_54 rfl (by omega) ?_
      refine z_goto (tgt := 7) dX0_thickest_57 rfl ?_
      try dsimp only [zs0, zsI, zsP, zsN, zsJ, zsS, zst2, Nat.reduceAdd]
      have e1 : (1 : Int) = tC g (k + 1) (g (k : Int)) := by rw [tC_s, zb_t rfl, tC_no (fun i i0 i1 => by omega)]; rfl
      rw [show (k : Int) + 1 = ((k + 1 : Nat) : Int) by omega]
      have hb1 := tC_bd g (k + 1) (g (k : Int))
      refine ih (k + 1) _ _ (by omega) ⟨by omega, fun _ => by rw [show ((k + 1 - 1 : Nat) : Int) = (k : Int) by omega]; exact e1⟩ (fun u => ?_) ?_ (by split <;> omega) hP
      · rw [tC_s]
        have hu := hmo u
        by_cases z : g (k : Int) = u
        · rw [tC_s] at e1
          rw [z] at e1
          rw [zb_t z]
          rw [zb_t rfl] at e1
          split <;> omega
        · rw [zb_f z]
          split <;> omega
      · split
        · exact Or.inr ⟨k, by omega, by rw [e1]; exact tC_mono (by omega)⟩
        · rcases hat with z | ⟨k2, z1, z2⟩
          · exact Or.inl z
          · exact Or.inr ⟨k2, by omega, z2⟩
    · refine z_aload_n dX0_thickest_21 rfl ?_
      refine z_iload_n dX0_thickest_22 rfl ?_
      refine z_iload dX0_thickest_23 rfl ?_
      refine z_callV mlX0_211 dX0_thickest_25 so (av := [_, _]) rfl rfl (Nat.le_of_ble_eq_true rfl) (c_codeAt _ o b cap so sb b0 qb dd p v d0 d1 hp p0 p1 hv h h6 q14 g hg ev k (by omega)) (Nat.le_refl _) (Nat.le_refl _) (Nat.le_refl _) (Nat.le_refl _) ?_
      rintro _ _ ⟨rfl, rfl⟩
      refine z_aload_n dX0_thickest_28 rfl ?_
      refine z_iload_n dX0_thickest_29 rfl ?_
      refine z_iload dX0_thickest_30 rfl ?_
      refine z_iconst dX0_thickest_32 (by decide) ?_
      refine z_sub dX0_thickest_33 (by omega) ?_
      rw [show (k : Int) - 1 = ((k - 1 : Nat) : Int) by omega]
      refine z_callV mlX0_211 dX0_thickest_34 so (av := [_, _]) rfl rfl (Nat.le_of_ble_eq_true rfl) (c_codeAt _ o b cap so sb b0 qb dd p v d0 d1 hp p0 p1 hv h h6 q14 g hg ev (k - 1) (by omega)) (Nat.le_refl _) (Nat.le_refl _) (Nat.le_refl _) (Nat.le_refl _) ?_
      rintro _ _ ⟨rfl, rfl⟩
      refine z_icmp_ne (tgt := 46) dX0_thickest_37 rfl (fun h37 => ?_) (fun h37 => ?_)
      · refine z_iconst dX0_thickest_46 (by decide) ?_
        refine z_ist 3 dX0_thickest_47 rfl (Nat.le_of_ble_eq_true rfl) ?_
        refine z_iload_n dX0_thickest_48 rfl ?_
        refine z_iload_n dX0_thickest_49 rfl ?_
        try dsimp only [zs0, zsI, zsP, zsN, zsJ, zsS, zst2, Nat.reduceAdd]
        refine z_max (zg5 54 (by decide +kernel) rfl) dX0_thickest_50 (Nat.le_of_ble_eq_true rfl) (Nat.le_refl _) (Nat.le_refl _) ?_
        refine z_ist 2 dX0_thickest_53 rfl (Nat.le_of_ble_eq_true rfl) ?_
        refine z_inc dX0_thickest_54 rfl (by omega) ?_
        refine z_goto (tgt := 7) dX0_thickest_57 rfl ?_
        try dsimp only [zs0, zsI, zsP, zsN, zsJ, zsS, zst2, Nat.reduceAdd]
        have e1 : (1 : Int) = tC g (k + 1) (g (k : Int)) := by rw [tC_s, zb_t rfl, tC_no (fun i i0 i1 => by have := hs i ((k - 1 : Nat) : Int) i0 (by omega) (by omega); have := hs ((k - 1 : Nat) : Int) (k : Int) (by omega) (by omega) (by omega); omega)]; rfl
        rw [show (k : Int) + 1 = ((k + 1 : Nat) : Int) by omega]
        have hb1 := tC_bd g (k + 1) (g (k : Int))
        refine ih (k + 1) _ _ (by omega) ⟨by omega, fun _ => by rw [show ((k + 1 - 1 : Nat) : Int) = (k : Int) by omega]; exact e1⟩ (fun u => ?_) ?_ (by split <;> omega) hP
        · rw [tC_s]
          have hu := hmo u
          by_cases z : g (k : Int) = u
          · rw [tC_s] at e1
            rw [z] at e1
            rw [zb_t z]
            rw [zb_t rfl] at e1
            split <;> omega
          · rw [zb_f z]
            split <;> omega
        · split
          · exact Or.inr ⟨k, by omega, by rw [e1]; exact tC_mono (by omega)⟩
          · rcases hat with z | ⟨k2, z1, z2⟩
            · exact Or.inl z
            · exact Or.inr ⟨k2, by omega, z2⟩
      · refine z_iload_n dX0_thickest_40 rfl ?_
        refine z_iconst dX0_thickest_41 (by decide) ?_
        refine z_add dX0_thickest_42 (by omega) ?_
        refine z_goto (tgt := 47) dX0_thickest_43 rfl ?_
        refine z_ist 3 dX0_thickest_47 rfl (Nat.le_of_ble_eq_true rfl) ?_
        refine z_iload_n dX0_thickest_48 rfl ?_
        refine z_iload_n dX0_thickest_49 rfl ?_
        try dsimp only [zs0, zsI, zsP, zsN, zsJ, zsS, zst2, Nat.reduceAdd]
        refine z_max (zg5 54 (by decide +kernel) rfl) dX0_thickest_50 (Nat.le_of_ble_eq_true rfl) (Nat.le_refl _) (Nat.le_refl _) ?_
        refine z_ist 2 dX0_thickest_53 rfl (Nat.le_of_ble_eq_true rfl) ?_
        refine z_inc dX0_thickest_54 rfl (by omega) ?_
        refine z_goto (tgt := 7) dX0_thickest_57 rfl ?_
        try dsimp only [zs0, zsI, zsP, zsN, zsJ, zsS, zst2, Nat.reduceAdd]
        have e1 : sm + 1 = tC g (k + 1) (g (k : Int)) := by rw [tC_s, zb_t rfl, hsm.2 (by omega)]; congr 2; omega
        rw [show (k : Int) + 1 = ((k + 1 : Nat) : Int) by omega]
        have hb1 := tC_bd g (k + 1) (g (k : Int))
        refine ih (k + 1) _ _ (by omega) ⟨by omega, fun _ => by rw [show ((k + 1 - 1 : Nat) : Int) = (k : Int) by omega]; exact e1⟩ (fun u => ?_) ?_ (by split <;> omega) hP
        · rw [tC_s]
          have hu := hmo u
          by_cases z : g (k : Int) = u
          · rw [tC_s] at e1
            rw [z] at e1
            rw [zb_t z]
            rw [zb_t rfl] at e1
            split <;> omega
          · rw [zb_f z]
            split <;> omega
        · split
          · exact Or.inr ⟨k, by omega, by rw [e1]; exact tC_mono (by omega)⟩
          · rcases hat with z | ⟨k2, z1, z2⟩
            · exact Or.inl z
            · exact Or.inr ⟨k2, by omega, z2⟩

theorem c_thickest (d : Nat) {E : zE} {m : zM} (o b cap : Int) (so : E.1 o = (6, 20)) (sb : shDg E b cap) (b0 : 0 < b) (qb : qDg m o b) (dd p v : Int) (d0 : 0 ≤ dd) (d1 : dd < cap) (hp : m (b + 5) dd = p) (p0 : 0 ≤ p) (p1 : p < cap) (hv : m b p = v) (h : Nat) (h6 : h ≤ 6) (q14 : m o 14 = (h : Int)) (g : Int → Int) (hg : ∀ i : Int, 0 ≤ i → i < h → 0 ≤ g i ∧ g i < 1024) (ev : v = sPk g h) (hs : srt g h) : zR zX0_thickest (d + 2) [zP o, zI dd] m E E (fun r m' => r = some (zI (tMo h g)) ∧ m = m') := by
  refine zR_go [zP o, zI dd, zN, zN, zN] (by decide +kernel) (Nat.le_of_ble_eq_true rfl) rfl rfl ?_
  refine z_iconst dX0_thickest_0 (by decide) ?_
  refine z_ist 2 dX0_thickest_1 rfl (Nat.le_of_ble_eq_true rfl) ?_
  refine z_iconst dX0_thickest_2 (by decide) ?_
  refine z_ist 3 dX0_thickest_3 rfl (Nat.le_of_ble_eq_true rfl) ?_
  refine z_iconst dX0_thickest_4 (by decide) ?_
  refine z_istore dX0_thickest_5 (Nat.le_of_ble_eq_true rfl) ?_
  try dsimp only [zs0, zsI, zsP, zsN, zsJ, zsS, zst2, Nat.reduceAdd]
  exact l_thick d o b cap so sb b0 qb dd p v d0 d1 hp p0 p1 hv h h6 q14 g hg ev hs h 0 0 0 (by omega) ⟨by omega, fun z => absurd z (by omega)⟩ (fun u => Int.le_refl _) (Or.inl rfl) (by omega) ⟨rfl, rfl⟩
