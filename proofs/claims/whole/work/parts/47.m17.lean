/-- a heap from lo on, of n numbers -/
def hp (f : Int → Int) (lo n : Nat) : Prop := ∀ i : Nat, lo ≤ i → (2 * i + 1 < n → f ((2 * i + 1 : Nat) : Int) ≤ f i) ∧ (2 * i + 2 < n → f ((2 * i + 2 : Nat) : Int) ≤ f i)
/-- .. but for the node a -/
def hpx (f : Int → Int) (lo n a : Nat) : Prop := (∀ i : Nat, lo ≤ i → i ≠ a → (2 * i + 1 < n → f ((2 * i + 1 : Nat) : Int) ≤ f i) ∧ (2 * i + 2 < n → f ((2 * i + 2 : Nat) : Int) ≤ f i)) ∧ ∀ i : Nat, lo ≤ i → (2 * i + 1 = a ∨ 2 * i + 2 = a) → (2 * a + 1 < n → f ((2 * a + 1 : Nat) : Int) ≤ f i) ∧ (2 * a + 2 < n → f ((2 * a + 2 : Nat) : Int) ≤ f i)
theorem hpx_start {f : Int → Int} {lo n : Nat} (h : hp f (lo + 1) n) : hpx f lo n lo := ⟨fun i h1 h2 => h i (by omega), fun i h1 h2 => by omega⟩
theorem hpx_leaf {f : Int → Int} {lo n a : Nat} (h : hpx f lo n a) (ha : n ≤ 2 * a + 1) : hp f lo n := fun i hi => by
  by_cases e : i = a
  · subst e; exact ⟨fun q => by omega, fun q => by omega⟩
  · exact h.1 i hi e
theorem hpx_done {f : Int → Int} {lo n a : Nat} (h : hpx f lo n a) (h1 : 2 * a + 1 < n → f (2 * (a : Int) + 1) ≤ f a) (h2 : 2 * a + 2 < n → f (2 * (a : Int) + 2) ≤ f a) : hp f lo n := fun i hi => by
  by_cases e : i = a
  · subst e
    exact ⟨fun q => by have := h1 q; rw [show ((2 * i + 1 : Nat) : Int) = 2 * (i : Int) + 1 by omega]; exact this, fun q => by have := h2 q; rw [show ((2 * i + 2 : Nat) : Int) = 2 * (i : Int) + 2 by omega]; exact this⟩
  · exact h.1 i hi e
def swF (f : Int → Int) (i j : Int) : Int → Int := fun k => if k = j then f i else if k = i then f j else f k
theorem zu_swap {m1 : zM} {A i j : Int} (h : i ≠ j) : zu (zu m1 A i (m1 A j)) A j (m1 A i) A = fun k => if k = j then m1 A i else if k = i then m1 A j else m1 A k := by
  funext k
  by_cases e1 : k = j
  · rw [if_pos e1, e1, zu_s]
  · rw [if_neg e1, zu_j e1]
    by_cases e2 : k = i
    · rw [if_pos e2, e2, zu_s]
    · rw [if_neg e2, zu_j e2]
theorem hpx_step {f : Int → Int} {lo n a c : Nat} (h : hpx f lo n a) (ha : lo ≤ a) (hc : c = 2 * a + 1 ∨ c = 2 * a + 2) (hcn : c < n) (hlt : f a < f c) (h1 : 2 * a + 1 < n → f ((2 * a + 1 : Nat) : Int) ≤ f c) (h2 : 2 * a + 2 < n → f ((2 * a + 2 : Nat) : Int) ≤ f c) : hpx (fun k => if k = (c : Int) then f a else if k = (a : Int) then f c else f k) lo n c := by
  have hac : ¬ (a : Int) = c := by omega
  have val : ∀ x : Nat, x ≠ c → x ≠ a → (fun k => if k = (c : Int) then f a else if k = (a : Int) then f c else f k) (x : Int) = f x := fun x q1 q2 => by dsimp only; rw [if_neg (by omega), if_neg (by omega)]
  have vc : (fun k => if k = (c : Int) then f a else if k = (a : Int) then f c else f k) (c : Int) = f a := if_pos rfl
  have va : (fun k => if k = (c : Int) then f a else if k = (a : Int) then f c else f k) (a : Int) = f c := by dsimp only; rw [if_neg hac, if_pos rfl]
  generalize (fun k => if k = (c : Int) then f a else if k = (a : Int) then f c else f k) = g at val vc va ⊢
  have ca := h.1 c (by omega) (by omega)
  constructor
  · intro i hi hic
    by_cases e : i = a
    · subst e
      rw [va]
      refine ⟨fun q => ?_, fun q => ?_⟩
      · by_cases e2 : 2 * i + 1 = c
        · rw [e2, vc]; omega
        · rw [val _ e2 (by omega)]; exact h1 q
      · by_cases e2 : 2 * i + 2 = c
        · rw [e2, vc]; omega
        · rw [val _ e2 (by omega)]; exact h2 q
    · have hi2 := h.1 i hi e
      have hg := h.2 i hi
      rw [val i hic e]
      refine ⟨fun q => ?_, fun q => ?_⟩
      · by_cases e2 : 2 * i + 1 = a
        · rw [e2, va]
          have := hg (Or.inl e2)
          rcases hc with hc | hc
          · rw [hc]; exact this.1 (by omega)
          · rw [hc]; exact this.2 (by omega)
        · rw [val _ (by omega) e2]; exact hi2.1 q
      · by_cases e2 : 2 * i + 2 = a
        · rw [e2, va]
          have := hg (Or.inr e2)
          rcases hc with hc | hc
          · rw [hc]; exact this.1 (by omega)
          · rw [hc]; exact this.2 (by omega)
        · rw [val _ (by omega) e2]; exact hi2.2 q
  · intro i hi hic
    have e : i = a := by omega
    subst e
    rw [va]
    exact ⟨fun q => by rw [val _ (by omega) (by omega)]; exact ca.1 q, fun q => by rw [val _ (by omega) (by omega)]; exact ca.2 q⟩
theorem l_placeIn (d : Nat) {E : zE} {m : zM} (A len : Int) (sA : E.1 A = (2, len)) (n : Nat) (hnl : (n : Int) ≤ len) (hlen : len ≤ 20000) (v : Int) (hs : srt (m A) n) {P : Option zV → zM → Prop} (hP : ∀ r : Int, ((r = -1 ∧ ∀ i : Int, 0 ≤ i → i < n → m A i ≠ v) ∨ (0 ≤ r ∧ r < n ∧ m A r = v)) → P (some (zI r)) m) : ∀ (j : Nat) (lo hi : Int), 0 ≤ lo → lo ≤ n → hi < n → -1 ≤ hi → hi + 1 - lo ≤ j → (∀ i : Int, 0 ≤ i → i < n → m A i = v → lo ≤ i ∧ i ≤ hi) → zA zX12_placeIn d E E P 8 [zP A, zI (n : Nat), zJ v, zN, zI lo, zI hi, zN] [] m E := by
  intro j
  induction j with
  | zero =>
    intro lo hi h0 h1 h2 h3 hj hI
    refine z_iload dX12_placeIn_8 rfl ?_
    refine z_iload dX12_placeIn_10 rfl ?_
    refine z_icmp_gt (tgt := 63) dX12_placeIn_12 rfl (fun h12 => ?_) (fun h => absurd (by omega) h)
    refine z_iconst dX12_placeIn_63 (by decide) ?_
    refine z_iret dX12_placeIn_64 rfl rfl ?_
    exact hP _ (Or.inl ⟨rfl, fun i q1 q2 q3 => by have := hI i q1 q2 q3; omega⟩)
  | succ j ih =>
    intro lo hi h0 h1 h2 h3 hj hI
    refine z_iload dX12_placeIn_8 rfl ?_
    refine z_iload dX12_placeIn_10 rfl ?_
    refine z_icmp_gt (tgt := 63) dX12_placeIn_12 rfl (fun h12 => ?_) (fun h12 => ?_)
    · refine z_iconst dX12_placeIn_63 (by decide) ?_
      refine z_iret dX12_placeIn_64 rfl rfl ?_
      exact hP _ (Or.inl ⟨rfl, fun i q1 q2 q3 => by have := hI i q1 q2 q3; omega⟩)
    · refine z_iload dX12_placeIn_15 rfl ?_
      refine z_iload dX12_placeIn_17 rfl ?_
      refine z_add dX12_placeIn_19 (by omega) ?_
      refine z_iconst dX12_placeIn_20 (by decide) ?_
      refine z_div dX12_placeIn_21 (by omega) (by omega) ?_
      refine z_istore dX12_placeIn_22 (Nat.le_of_ble_eq_true rfl) ?_
      refine z_aload_n dX12_placeIn_24 rfl ?_
      refine z_iload dX12_placeIn_25 rfl ?_
      refine z_lald dX12_placeIn_27 sA (by omega) (by omega) ?_
      refine z_lload_n dX12_placeIn_28 rfl ?_
      refine z_lcmp dX12_placeIn_29 ?_
      try dsimp only [zs0, zsI, zsP, zsN, zsJ, zsS, zst2, Nat.reduceAdd]
      refine z_if_ne (tgt := 36) dX12_placeIn_30 rfl (fun h30 => ?_) (fun h30 => ?_)
      · refine z_aload_n dX12_placeIn_36 rfl ?_
        refine z_iload dX12_placeIn_37 rfl ?_
        refine z_lald dX12_placeIn_39 sA (by omega) (by omega) ?_
        refine z_lload_n dX12_placeIn_40 rfl ?_
        refine z_lcmp dX12_placeIn_41 ?_
        refine z_if_ge (tgt := 54) dX12_placeIn_42 rfl (fun h42 => ?_) (fun h42 => ?_)
        · refine z_iload dX12_placeIn_54 rfl ?_
          refine z_iconst dX12_placeIn_56 (by decide) ?_
          refine z_sub dX12_placeIn_57 (by omega) ?_
          refine z_istore dX12_placeIn_58 (Nat.le_of_ble_eq_true rfl) ?_
          refine z_goto (tgt := 8) dX12_placeIn_60 rfl ?_
          try dsimp only [zs0, zsI, zsP, zsN, zsJ, zsS, zst2, Nat.reduceAdd]
          simp only [ne_eq, zcmp_eq] at h30
          rw [zcmp_ge] at h42
          refine zA_wk [_, _, _, zN, _, _, zN] (by exact ⟨Or.inr rfl, Or.inr rfl, Or.inr rfl, Or.inl rfl, Or.inr rfl, Or.inr rfl, Or.inl rfl, trivial⟩) ?_
          exact ih lo (((lo + hi) / 2) - 1) h0 h1 (by omega) (by omega) (by omega) (fun i q1 q2 q3 => by have h5 := hI i q1 q2 q3; refine ⟨h5.1, ?_⟩; apply Classical.byContradiction; intro h6; have := hs ((lo + hi) / 2) i (by omega) (by omega) q2; omega)
        · refine z_iload dX12_placeIn_45 rfl ?_
          refine z_iconst dX12_placeIn_47 (by decide) ?_
          refine z_add dX12_placeIn_48 (by omega) ?_
          refine z_istore dX12_placeIn_49 (Nat.le_of_ble_eq_true rfl) ?_
          refine z_goto (tgt := 60) dX12_placeIn_51 rfl ?_
          refine z_goto (tgt := 8) dX12_placeIn_60 rfl ?_
          try dsimp only [zs0, zsI, zsP, zsN, zsJ, zsS, zst2, Nat.reduceAdd]
          simp only [ne_eq, zcmp_eq] at h30
          rw [zcmp_ge] at h42
          refine zA_wk [_, _, _, zN, _, _, zN] (by exact ⟨Or.inr rfl, Or.inr rfl, Or.inr rfl, Or.inl rfl, Or.inr rfl, Or.inr rfl, Or.inl rfl, trivial⟩) ?_
          exact ih (((lo + hi) / 2) + 1) hi (by omega) (by omega) h2 h3 (by omega) (fun i q1 q2 q3 => by have h5 := hI i q1 q2 q3; refine ⟨?_, h5.2⟩; apply Classical.byContradiction; intro h6; have := hs i ((lo + hi) / 2) q1 (by omega) (by omega); omega)
      · refine z_iload dX12_placeIn_33 rfl ?_
        refine z_iret dX12_placeIn_35 rfl rfl ?_
        have h31 := Classical.not_not.mp h30
        rw [zcmp_eq] at h31
        exact hP _ (Or.inr ⟨by omega, by omega, h31⟩)

theorem r_placeIn (d : Nat) {E : zE} {m : zM} (A len : Int) (sA : E.1 A = (2, len)) (n : Nat) (hnl : (n : Int) ≤ len) (hlen : len ≤ 20000) (v : Int) (hs : srt (m A) n) : zR zX12_placeIn d [zP A, zI (n : Nat), zJ v] m E E (fun r m2 => ∃ x : Int, r = some (zI x) ∧ m = m2 ∧ ((x = -1 ∧ ∀ i : Int, 0 ≤ i → i < n → m A i ≠ v) ∨ (0 ≤ x ∧ x < n ∧ m A x = v))) := by
  refine zR_go [zP A, zI (n : Nat), zJ v, zN, zN, zN, zN] (by decide +kernel) (Nat.le_of_ble_eq_true rfl) rfl rfl ?_
  refine z_iconst dX12_placeIn_0 (by decide) ?_
  refine z_istore dX12_placeIn_1 (Nat.le_of_ble_eq_true rfl) ?_
  refine z_iload_n dX12_placeIn_3 rfl ?_
  refine z_iconst dX12_placeIn_4 (by decide) ?_
  refine z_sub dX12_placeIn_5 (by omega) ?_
  refine z_istore dX12_placeIn_6 (Nat.le_of_ble_eq_true rfl) ?_
  try dsimp only [zs0, zsI, zsP, zsN, zsJ, zsS, zst2, Nat.reduceAdd]
  refine l_placeIn d A len sA n hnl hlen v hs (fun r hr => ⟨r, rfl, rfl, hr⟩) (n + 1) 0 _ (by omega) (by omega) (by omega) (by omega) (by omega) (fun i q1 q2 _ => by omega)

theorem l_sinks (d : Nat) {E : zE} {m : zM} (A len : Int) (sA : E.1 A = (2, len)) (n : Nat) (hnl : (n : Int) ≤ len) (hlen : len ≤ 20000) (fr : Nat) {P : Option zV → zM → Prop} (hP : ∀ m2, (zfr [(A, none)] m m2 ∧ (∀ x : Int, (x < 0 ∨ (n : Int) ≤ x) → m2 A x = m A x) ∧ pm (m2 A) (m A) n) → hp (m2 A) fr n → P none m2) : ∀ (j at' : Nat) (m1 : zM), fr ≤ at' → at' ≤ n → n ≤ at' + j → (zfr [(A, none)] m m1 ∧ (∀ x : Int, (x < 0 ∨ (n : Int) ≤ x) → m1 A x = m A x) ∧ pm (m1 A) (m A) n) → hpx (m1 A) fr n at' → zA zX12_sinks d E E P 2 [zP A, zI (fr : Nat), zI (n : Nat), zI (at' : Nat), zN, zN, zN] [] m1 E := by
  intro j
  induction j with
  | zero =>
    intro at' m1 h0 h1 hj hI hx
    refine z_iconst dX12_sinks_2 (by decide) ?_
    refine z_iload_n dX12_sinks_3 rfl ?_
    refine z_mul dX12_sinks_4 (by omega) ?_
    refine z_iconst dX12_sinks_5 (by decide) ?_
    refine z_add dX12_sinks_6 (by omega) ?_
    refine z_iload_n dX12_sinks_7 rfl ?_
    refine z_icmp_ge (tgt := 79) dX12_sinks_8 rfl (fun h8 => ?_) (fun h => absurd (by omega) h)
    refine z_vret dX12_sinks_79 rfl rfl ?_
    exact hP m1 hI (hpx_leaf hx (by omega))
  | succ j ih =>
    intro at' m1 h0 h1 hj hI hx
    refine z_iconst dX12_sinks_2 (by decide) ?_
    refine z_iload_n dX12_sinks_3 rfl ?_
    refine z_mul dX12_sinks_4 (by omega) ?_
    refine z_iconst dX12_sinks_5 (by decide) ?_
    refine z_add dX12_sinks_6 (by omega) ?_
    refine z_iload_n dX12_sinks_7 rfl ?_
    refine z_icmp_ge (tgt := 79) dX12_sinks_8 rfl (fun h8 => ?_) (fun h8 => ?_)
    · refine z_vret dX12_sinks_79 rfl rfl ?_
      exact hP m1 hI (hpx_leaf hx (by omega))
    · refine z_iconst dX12_sinks_11 (by decide) ?_
      refine z_iload_n dX12_sinks_12 rfl ?_
      refine z_mul dX12_sinks_13 (by omega) ?_
      refine z_iconst dX12_sinks_14 (by decide) ?_
      refine z_add dX12_sinks_15 (by omega) ?_
      refine z_istore dX12_sinks_16 (Nat.le_of_ble_eq_true rfl) ?_
      refine z_iload dX12_sinks_18 rfl ?_
      refine z_iconst dX12_sinks_20 (by decide) ?_
      refine z_add dX12_sinks_21 (by omega) ?_
      refine z_iload_n dX12_sinks_22 rfl ?_
      try dsimp only [zs0, zsI, zsP, zsN, zsJ, zsS, zst2, Nat.reduceAdd]
      refine z_icmp_ge (tgt := 43) dX12_sinks_23 rfl (fun h23 => ?_) (fun h23 => ?_)
      · refine z_aload_n dX12_sinks_43 rfl ?_
        refine z_iload_n dX12_sinks_44 rfl ?_
        refine z_lald dX12_sinks_45 sA (by omega) (by omega) ?_
        refine z_aload_n dX12_sinks_46 rfl ?_
        refine z_iload dX12_sinks_47 rfl ?_
        refine z_lald dX12_sinks_49 sA (by omega) (by omega) ?_
        refine z_lcmp dX12_sinks_50 ?_
        refine z_if_lt (tgt := 55) dX12_sinks_51 rfl (fun h51 => ?_) (fun h51 => ?_)
        · refine z_aload_n dX12_sinks_55 rfl ?_
          refine z_iload_n dX12_sinks_56 rfl ?_
          refine z_lald dX12_sinks_57 sA (by omega) (by omega) ?_
          refine z_lstore dX12_sinks_58 (Nat.le_of_ble_eq_true rfl) ?_
          refine z_aload_n dX12_sinks_60 rfl ?_
          refine z_iload_n dX12_sinks_61 rfl ?_
          refine z_aload_n dX12_sinks_62 rfl ?_
          refine z_iload dX12_sinks_63 rfl ?_
          refine z_lald dX12_sinks_65 sA (by omega) (by omega) ?_
          refine z_last dX12_sinks_66 sA (by omega) (by omega) ?_
          refine z_aload_n dX12_sinks_67 rfl ?_
          refine z_iload dX12_sinks_68 rfl ?_
          refine z_lload dX12_sinks_70 rfl ?_
          refine z_last dX12_sinks_72 sA (by omega) (by omega) ?_
          refine z_iload dX12_sinks_73 rfl ?_
          refine z_ist 3 dX12_sinks_75 rfl (Nat.le_of_ble_eq_true rfl) ?_
          refine z_goto (tgt := 2) dX12_sinks_76 rfl ?_
          try dsimp only [zs0, zsI, zsP, zsN, zsJ, zsS, zst2, Nat.reduceAdd]
          rw [zcmp_lt] at h51
          refine zA_wk [_, _, _, _, zN, zN, zN] (by exact ⟨Or.inr rfl, Or.inr rfl, Or.inr rfl, Or.inr rfl, Or.inl rfl, Or.inl rfl, Or.inl rfl, trivial⟩) ?_
          rw [show 2 * (at' : Int) + 1 = ((2 * at' + 1 : Nat) : Int) by omega] at *
          refine ih (2 * at' + 1) _ (by omega) (by omega) (by omega) ⟨zfr_ua (zfr_ua hI.1 (by simp)) (by simp), fun x hx2 => by rw [zu_j (by omega), zu_j (by omega)]; exact hI.2.1 x hx2, ?_⟩ ?_
          · rw [zu_swap (by omega)]
            exact pm_tr (pm_swap (by omega) (by omega) (by omega) (by omega)) hI.2.2
          · rw [zu_swap (by omega)]
            exact hpx_step hx h0 (by omega) (by omega) (by omega) (fun _ => by omega) (fun _ => by omega)
        · refine z_vret dX12_sinks_54 rfl rfl ?_
          rw [zcmp_lt] at h51
          exact hP m1 hI (hpx_done hx (fun _ => by omega) (fun _ => by omega))
      · refine z_aload_n dX12_sinks_26 rfl ?_
        refine z_iload dX12_sinks_27 rfl ?_
        refine z_iconst dX12_sinks_29 (by decide) ?_
        refine z_add dX12_sinks_30 (by omega) ?_
        refine z_lald dX12_sinks_31 sA (by omega) (by omega) ?_
        refine z_aload_n dX12_sinks_32 rfl ?_
        refine z_iload dX12_sinks_33 rfl ?_
        refine z_lald dX12_sinks_35 sA (by omega) (by omega) ?_
        refine z_lcmp dX12_sinks_36 ?_
        refine z_if_le (tgt := 43) dX12_sinks_37 rfl (fun h37 => ?_) (fun h37 => ?_)
        · refine z_aload_n dX12_sinks_43 rfl ?_
          refine z_iload_n dX12_sinks_44 rfl ?_
          refine z_lald dX12_sinks_45 sA (by omega) (by omega) ?_
          refine z_aload_n dX12_sinks_46 rfl ?_
          refine z_iload dX12_sinks_47 rfl ?_
          refine z_lald dX12_sinks_49 sA (by omega) (by omega) ?_
          refine z_lcmp dX12_sinks_50 ?_
          refine z_if_lt (tgt := 55) dX12_sinks_51 rfl (fun h51 => ?_) (fun h51 => ?_)
          · refine z_aload_n dX12_sinks_55 rfl ?_
            refine z_iload_n dX12_sinks_56 rfl ?_
            refine z_lald dX12_sinks_57 sA (by omega) (by omega) ?_
            refine z_lstore dX12_sinks_58 (Nat.le_of_ble_eq_true rfl) ?_
            refine z_aload_n dX12_sinks_60 rfl ?_
            refine z_iload_n dX12_sinks_61 rfl ?_
            refine z_aload_n dX12_sinks_62 rfl ?_
            refine z_iload dX12_sinks_63 rfl ?_
            refine z_lald dX12_sinks_65 sA (by omega) (by omega) ?_
            refine z_last dX12_sinks_66 sA (by omega) (by omega) ?_
            refine z_aload_n dX12_sinks_67 rfl ?_
            refine z_iload dX12_sinks_68 rfl ?_
            refine z_lload dX12_sinks_70 rfl ?_
            refine z_last dX12_sinks_72 sA (by omega) (by omega) ?_
            refine z_iload dX12_sinks_73 rfl ?_
            refine z_ist 3 dX12_sinks_75 rfl (Nat.le_of_ble_eq_true rfl) ?_
            refine z_goto (tgt := 2) dX12_sinks_76 rfl ?_
            try dsimp only [zs0, zsI, zsP, zsN, zsJ, zsS, zst2, Nat.reduceAdd]
            rw [zcmp_lt] at h51
            rw [zcmp_le] at h37
            refine zA_wk [_, _, _, _, zN, zN, zN] (by exact ⟨Or.inr rfl, Or.inr rfl, Or.inr rfl, Or.inr rfl, Or.inl rfl, Or.inl rfl, Or.inl rfl, trivial⟩) ?_
            rw [show 2 * (at' : Int) + 1 = ((2 * at' + 1 : Nat) : Int) by omega] at *
            rw [show ((2 * at' + 1 : Nat) : Int) + 1 = ((2 * at' + 2 : Nat) : Int) by omega] at h37
            refine ih (2 * at' + 1) _ (by omega) (by omega) (by omega) ⟨zfr_ua (zfr_ua hI.1 (by simp)) (by simp), fun x hx2 => by rw [zu_j (by omega), zu_j (by omega)]; exact hI.2.1 x hx2, ?_⟩ ?_
            · rw [zu_swap (by omega)]
              exact pm_tr (pm_swap (by omega) (by omega) (by omega) (by omega)) hI.2.2
            · rw [zu_swap (by omega)]
              exact hpx_step hx h0 (by omega) (by omega) (by omega) (fun _ => by omega) (fun _ => by omega)
          · refine z_vret dX12_sinks_54 rfl rfl ?_
            rw [zcmp_lt] at h51
            rw [zcmp_le] at h37
            exact hP m1 hI (hpx_done hx (fun _ => by omega) (fun _ => by rw [show 2 * (at' : Int) + 1 + 1 = 2 * at' + 2 by omega] at *; omega))
        · refine z_inc dX12_sinks_40 rfl (by omega) ?_
          refine z_aload_n dX12_sinks_43 rfl ?_
          refine z_iload_n dX12_sinks_44 rfl ?_
          refine z_lald dX12_sinks_45 sA (by omega) (by omega) ?_
          refine z_aload_n dX12_sinks_46 rfl ?_
          refine z_iload dX12_sinks_47 rfl ?_
          refine z_lald dX12_sinks_49 sA (by omega) (by omega) ?_
          refine z_lcmp dX12_sinks_50 ?_
          try dsimp only [zs0, zsI, zsP, zsN, zsJ, zsS, zst2, Nat.reduceAdd]
          refine z_if_lt (tgt := 55) dX12_sinks_51 rfl (fun h51 => ?_) (fun h51 => ?_)
          · refine z_aload_n dX12_sinks_55 rfl ?_
            refine z_iload_n dX12_sinks_56 rfl ?_
            refine z_lald dX12_sinks_57 sA (by omega) (by omega) ?_
            refine z_lstore dX12_sinks_58 (Nat.le_of_ble_eq_true rfl) ?_
            refine z_aload_n dX12_sinks_60 rfl ?_
            refine z_iload_n dX12_sinks_61 rfl ?_
            refine z_aload_n dX12_sinks_62 rfl ?_
            refine z_iload dX12_sinks_63 rfl ?_
            refine z_lald dX12_sinks_65 sA (by omega) (by omega) ?_
            refine z_last dX12_sinks_66 sA (by omega) (by omega) ?_
            refine z_aload_n dX12_sinks_67 rfl ?_
            refine z_iload dX12_sinks_68 rfl ?_
            refine z_lload dX12_sinks_70 rfl ?_
            refine z_last dX12_sinks_72 sA (by omega) (by omega) ?_
            refine z_iload dX12_sinks_73 rfl ?_
            refine z_ist 3 dX12_sinks_75 rfl (Nat.le_of_ble_eq_true rfl) ?_
            refine z_goto (tgt := 2) dX12_sinks_76 rfl ?_
            try dsimp only [zs0, zsI, zsP, zsN, zsJ, zsS, zst2, Nat.reduceAdd]
            rw [zcmp_lt] at h51
            rw [zcmp_le] at h37
            refine zA_wk [_, _, _, _, zN, zN, zN] (by exact ⟨Or.inr rfl, Or.inr rfl, Or.inr rfl, Or.inr rfl, Or.inl rfl, Or.inl rfl, Or.inl rfl, trivial⟩) ?_
            rw [show 2 * (at' : Int) + 1 + 1 = ((2 * at' + 2 : Nat) : Int) by omega] at *
            rw [show 2 * (at' : Int) + 1 = ((2 * at' + 1 : Nat) : Int) by omega] at h37
            refine ih (2 * at' + 2) _ (by omega) (by omega) (by omega) ⟨zfr_ua (zfr_ua hI.1 (by simp)) (by simp), fun x hx2 => by rw [zu_j (by omega), zu_j (by omega)]; exact hI.2.1 x hx2, ?_⟩ ?_
            · rw [zu_swap (by omega)]
              exact pm_tr (pm_swap (by omega) (by omega) (by omega) (by omega)) hI.2.2
            · rw [zu_swap (by omega)]
              exact hpx_step hx h0 (by omega) (by omega) (by omega) (fun _ => by omega) (fun _ => by omega)
          · refine z_vret dX12_sinks_54 rfl rfl ?_
            rw [zcmp_lt] at h51
            rw [zcmp_le] at h37
            exact hP m1 hI (hpx_done hx (fun _ => by rw [show 2 * (at' : Int) + 1 + 1 = 2 * at' + 2 by omega] at *; omega) (fun _ => by rw [show 2 * (at' : Int) + 1 + 1 = 2 * at' + 2 by omega] at *; omega))

theorem r_sinks (d : Nat) {E : zE} {m : zM} (A len : Int) (sA : E.1 A = (2, len)) (n : Nat) (hnl : (n : Int) ≤ len) (hlen : len ≤ 20000) (fr : Nat) (hfr : fr ≤ n) (hh : hp (m A) (fr + 1) n) : zR zX12_sinks d [zP A, zI (fr : Nat), zI (n : Nat)] m E E (fun r m2 => r = none ∧ zfr [(A, none)] m m2 ∧ (∀ x : Int, (x < 0 ∨ (n : Int) ≤ x) → m2 A x = m A x) ∧ pm (m2 A) (m A) n ∧ hp (m2 A) fr n) := by
  refine zR_go [zP A, zI (fr : Nat), zI (n : Nat), zN, zN, zN, zN] (by decide +kernel) (Nat.le_of_ble_eq_true rfl) rfl rfl ?_
  refine z_iload_n dX12_sinks_0 rfl ?_
  refine z_ist 3 dX12_sinks_1 rfl (Nat.le_of_ble_eq_true rfl) ?_
  try dsimp only [zs0, zsI, zsP, zsN, zsJ, zsS, zst2, Nat.reduceAdd]
  refine l_sinks d A len sA n hnl hlen fr (fun m2 k1 k2 => ⟨rfl, k1.1, k1.2.1, k1.2.2, k2⟩) n fr m (Nat.le_refl _) hfr (by omega) ⟨zfr_rf, fun _ _ => rfl, pm_rf⟩ (hpx_start hh)
