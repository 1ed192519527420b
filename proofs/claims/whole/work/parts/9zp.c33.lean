theorem sw_mem {m : zM} {a : Int} {i : Nat} (h : i ≠ 0) : zu (zu m a 0 (m a (i : Int))) a (i : Int) (m a 0) a = swp (m a) ((0 : Nat) : Int) (i : Int) := by
  funext x
  by_cases z : x = (i : Int)
  · rw [z, zu_s, swp_r (by omega)]; rfl
  · rw [zu_j z]
    by_cases y : x = 0
    · rw [y, zu_s]
      exact swp_l.symm
    · rw [zu_j y, swp_o (by omega) z]
theorem kq_kept {m : zM} {b : Int} {s j : Nat} (hj : j + 1 ≤ s) : kept (fun V => pmI V s ∧ (∀ i k : Nat, i ≤ j → j < k → k < s → m b (V (i : Int)) ≤ m b (V (k : Int))) ∧ ∀ i k : Nat, j < i → i < k → k < s → m b (V (i : Int)) ≤ m b (V (k : Int))) (j + 1) := by
  intro V x y hx hy ⟨h1, h2, h3⟩
  have hi : ∀ k : Nat, j < k → swp V (x : Int) (y : Int) (k : Int) = V (k : Int) := fun k hk => swp_o (by omega) (by omega)
  refine ⟨pmI_kept hj V x y hx hy h1, fun i k a1 a2 a3 => ?_, fun i k a1 a2 a3 => ?_⟩
  · rw [hi k a2]
    by_cases z1 : i = x
    · rw [z1, swp_l]; exact h2 y k (by omega) a2 a3
    · by_cases z2 : i = y
      · rw [z2, swp_r (by omega)]; exact h2 x k (by omega) a2 a3
      · rw [swp_o (by omega) (by omega)]; exact h2 i k a1 a2 a3
  · rw [hi k (by omega), hi i a1]
    exact h3 i k a1 a2 a3
theorem l_rank (d : Nat) {E : zE} {m : zM} {P : Option zV → zM → Prop} (o b cap : Int) (so : E.1 o = (6, 20)) (sb : shDg E b cap) (b0 : 0 < b) (qb : qDg m o b) (ob : o < b ∨ b + 8 ≤ o) (s : Nat) (hs : (s : Int) ≤ cap) (hsb : s ≤ 10395) (q18 : m o 18 = (s : Int)) (hp : pmI (m (b + 5)) s) : ∀ (j : Nat) (k : Nat) (m1 : zM), (k + j = s) → (zfr [(b + 6, none)] m m1) → (∀ x : Nat, x < k → m1 (b + 6) (m (b + 5) (x : Int)) = (x : Int)) → (∀ m', zfr [(b + 6, none)] m m' → (∀ x : Nat, x < s → m' (b + 6) (m (b + 5) (x : Int)) = (x : Int)) → P none m') → zA zX0_sortByName (d + 1) E E P 102 [zP o, zI (k : Nat), zN] [] m1 E := by
  intro j
  induction j with
  | zero =>
    intro k m1 hj hf hk hP
    refine z_iload_n dX0_sortByName_102 rfl ?_
    refine z_aload_n dX0_sortByName_103 rfl ?_
    refine z_gIv 18 rfl flX0_108 dX0_sortByName_104 so rfl ((fB_o hf (by omega)).trans q18) ?_
    refine z_icmp_ge (tgt := 128) dX0_sortByName_107 rfl (fun h107 => ?_) (fun h => absurd (by omega) h)
    refine z_vret dX0_sortByName_128 rfl rfl ?_
    exact hP m1 hf (fun x hx => hk x (by omega))
  | succ j ih =>
    intro k m1 hj hf hk hP
    refine z_iload_n dX0_sortByName_102 rfl ?_
    refine z_aload_n dX0_sortByName_103 rfl ?_
    refine z_gIv 18 rfl flX0_108 dX0_sortByName_104 so rfl ((fB_o hf (by omega)).trans q18) ?_
    refine z_icmp_ge (tgt := 128) dX0_sortByName_107 rfl (fun h => absurd h (by omega)) (fun h107 => ?_)
    refine z_aload_n dX0_sortByName_110 rfl ?_
    refine z_gP 11 rfl (r := b + 6) flX0_54 dX0_sortByName_111 so rfl (qDg_fr qb hf ob).2.2.2.2.2.2.1 (by omega) ?_
    refine z_aload_n dX0_sortByName_114 rfl ?_
    refine z_gP 10 rfl (r := b + 5) flX0_51 dX0_sortByName_115 so rfl (qDg_fr qb hf ob).2.2.2.2.2.1 (by omega) ?_
    refine z_iload_n dX0_sortByName_118 rfl ?_
    have hpk := hp.1 k (by omega)
    refine z_ialv (v := m (b + 5) (k : Int)) dX0_sortByName_119 sb.2.2.2.2.2.1 (by omega) (by omega) (fB_o hf (by omega)) ?_
    refine z_iload_n dX0_sortByName_120 rfl ?_
    refine z_iast dX0_sortByName_121 sb.2.2.2.2.2.2.1 (by omega) (by omega) ?_
    refine z_inc dX0_sortByName_122 rfl (by omega) ?_
    refine z_goto (tgt := 102) dX0_sortByName_125 rfl ?_
    try dsimp only [zs0, zsI, zsP, zsN, zsJ, zsS, zst2, Nat.reduceAdd]
    rw [show (k : Int) + 1 = ((k + 1 : Nat) : Int) by omega]
    refine ih (k + 1) _ (by omega) (zfr_ua hf (by simp)) (fun x hx => ?_) hP
    by_cases z : x = k
    · rw [z, zu_s]
    · rw [zu_j (fun y => z (hp.2 x k (by omega) (by omega) y))]; exact hk x (by omega)

theorem l_takeOut (d : Nat) {E : zE} {m : zM} {P : Option zV → zM → Prop} (o b cap : Int) (so : E.1 o = (6, 20)) (sb : shDg E b cap) (b0 : 0 < b) (qb : qDg m o b) (ob : o < b ∨ b + 8 ≤ o) (s : Nat) (hs : (s : Int) ≤ cap) (hsb : s ≤ 10395) (q18 : m o 18 = (s : Int)) : ∀ (j : Nat) (m1 : zM), (j < s) → (zfr [(b + 5, none)] m m1) → (heap (fun x => m b x) (m1 (b + 5)) 0 (j + 1)) → (pmI (m1 (b + 5)) s) → ((∀ i k : Nat, i ≤ j → j < k → k < s → m b ((m1 (b + 5)) (i : Int)) ≤ m b ((m1 (b + 5)) (k : Int))) ∧ ∀ i k : Nat, j < i → i < k → k < s → m b ((m1 (b + 5)) (i : Int)) ≤ m b ((m1 (b + 5)) (k : Int))) → (∀ m', zfr [(b + 5, none), (b + 6, none)] m m' → pmI (m' (b + 5)) s → (∀ i k : Nat, i < k → k < s → m b (m' (b + 5) (i : Int)) ≤ m b (m' (b + 5) (k : Int))) → (∀ x : Nat, x < s → m' (b + 6) (m' (b + 5) (x : Int)) = (x : Int)) → P none m') → zA zX0_sortByName (d + 1) E E P 58 [zP o, zI (j : Nat), zN] [] m1 E := by
  intro j
  induction j with
  | zero =>
    intro m1 hj hf hh hp hq hP
    refine z_iload_n dX0_sortByName_58 rfl ?_
    refine z_if_le (tgt := 100) dX0_sortByName_59 rfl (fun h59 => ?_) (fun h => absurd (by omega) h)
    refine z_iconst dX0_sortByName_100 (by decide) ?_
    refine z_ist 1 dX0_sortByName_101 rfl (Nat.le_of_ble_eq_true rfl) ?_
    try dsimp only [zs0, zsI, zsP, zsN, zsJ, zsS, zst2, Nat.reduceAdd]
    refine zA_wk [_, _, _] (by exact ⟨Or.inr rfl, Or.inr rfl, Or.inr rfl, trivial⟩) ?_
    refine l_rank d o b cap so sb b0 (qDg_fr qb hf ob) ob s hs hsb ((fB_o hf (by omega)).trans q18) hp s 0 m1 (by omega) zfr_rf (fun x hx => absurd hx (by omega)) (fun m3 f3 r3 => ?_)
    have e5 : m3 (b + 5) = m1 (b + 5) := funext fun x => fB_o f3 (by omega)
    refine hP m3 (fun c i z1 z2 => ?_) (by rw [e5]; exact hp) (fun i k h1 h2 => ?_) (fun x hx => by rw [e5]; exact r3 x hx)
    · rw [fB_o f3 (by simp at z1; omega), fB_o hf (by simp at z1; omega)]
    · rw [e5]
      by_cases y : i = 0
      · rw [y]; exact hq.1 0 k (by omega) (by omega) h2
      · exact hq.2 i k (by omega) h1 h2
  | succ j ih =>
    intro m1 hj hf hh hp hq hP
    have eK1 : (fun x => m1 b x) = (fun x => m b x) := funext fun x => fB_o hf (by omega)
    have top := heap_top hh
    have z0 : ∀ i : Nat, i ≤ j + 1 → m b (m1 (b + 5) (i : Int)) ≤ m b (m1 (b + 5) 0) := fun i hi => top i (by omega)
    have hpw : pmI (swp (m1 (b + 5)) ((0 : Nat) : Int) ((j + 1 : Nat) : Int)) s := pmI_kept (Nat.le_refl s) _ 0 (j + 1) (by omega) (by omega) hp
    have w0 : swp (m1 (b + 5)) ((0 : Nat) : Int) ((j + 1 : Nat) : Int) ((j + 1 : Nat) : Int) = m1 (b + 5) 0 := swp_r (by omega)
    have wl : ∀ i : Nat, i ≤ j → ∃ i' : Nat, i' ≤ j + 1 ∧ swp (m1 (b + 5)) ((0 : Nat) : Int) ((j + 1 : Nat) : Int) (i : Int) = m1 (b + 5) (i' : Int) := fun i hi => by
      by_cases y : i = 0
      · exact ⟨j + 1, Nat.le_refl _, by rw [y, swp_l]⟩
      · exact ⟨i, by omega, swp_o (by omega) (by omega)⟩
    have wh : ∀ k : Nat, j + 1 < k → swp (m1 (b + 5)) ((0 : Nat) : Int) ((j + 1 : Nat) : Int) (k : Int) = m1 (b + 5) (k : Int) := fun k hk => swp_o (by omega) (by omega)
    have hq1 : ∀ i k : Nat, i ≤ j → j < k → k < s → m b (swp (m1 (b + 5)) ((0 : Nat) : Int) ((j + 1 : Nat) : Int) (i : Int)) ≤ m b (swp (m1 (b + 5)) ((0 : Nat) : Int) ((j + 1 : Nat) : Int) (k : Int)) := fun i k h1 h2 h3 => by
      obtain ⟨i', a1, a2⟩ := wl i h1
      rw [a2]
      by_cases y : k = j + 1
      · rw [y, w0]; exact z0 i' a1
      · rw [wh k (by omega)]; exact hq.1 i' k a1 (by omega) h3
    have hq2 : ∀ i k : Nat, j < i → i < k → k < s → m b (swp (m1 (b + 5)) ((0 : Nat) : Int) ((j + 1 : Nat) : Int) (i : Int)) ≤ m b (swp (m1 (b + 5)) ((0 : Nat) : Int) ((j + 1 : Nat) : Int) (k : Int)) := fun i k h1 h2 h3 => by
      rw [wh k (by omega)]
      by_cases y : i = j + 1
      · rw [y, w0]; exact hq.1 0 k (by omega) (by omega) h3
      · rw [wh i (by omega)]; exact hq.2 i k (by omega) h2 h3
    have hhp : heap (fun x => m b x) (swp (m1 (b + 5)) ((0 : Nat) : Int) ((j + 1 : Nat) : Int)) (0 + 1) (j + 1) := fun c h1 h2 h3 => by
      rw [swp_o (x := (c : Int)) (by omega) (by omega), swp_o (by omega) (by omega)]
      exact hh c (by omega) h2 (by omega)
    refine z_iload_n dX0_sortByName_58 rfl ?_
    refine z_if_le (tgt := 100) dX0_sortByName_59 rfl (fun h => absurd h (by omega)) (fun h59 => ?_)
    refine z_aload_n dX0_sortByName_62 rfl ?_
    refine z_gP 10 rfl (r := b + 5) flX0_51 dX0_sortByName_63 so rfl (qDg_fr qb hf ob).2.2.2.2.2.1 (by omega) ?_
    refine z_iconst dX0_sortByName_66 (by decide) ?_
    refine z_ialv (v := m1 (b + 5) 0) dX0_sortByName_67 sb.2.2.2.2.2.1 (by omega) (by omega) rfl ?_
    refine z_ist 2 dX0_sortByName_68 rfl (Nat.le_of_ble_eq_true rfl) ?_
    refine z_aload_n dX0_sortByName_69 rfl ?_
    refine z_gP 10 rfl (r := b + 5) flX0_51 dX0_sortByName_70 so rfl (qDg_fr qb hf ob).2.2.2.2.2.1 (by omega) ?_
    refine z_iconst dX0_sortByName_73 (by decide) ?_
    refine z_aload_n dX0_sortByName_74 rfl ?_
    refine z_gP 10 rfl (r := b + 5) flX0_51 dX0_sortByName_75 so rfl (qDg_fr qb hf ob).2.2.2.2.2.1 (by omega) ?_
    refine z_iload_n dX0_sortByName_78 rfl ?_
    refine z_ialv (v := m1 (b + 5) ((j + 1 : Nat) : Int)) dX0_sortByName_79 sb.2.2.2.2.2.1 (by omega) (by omega) rfl ?_
    refine z_iast dX0_sortByName_80 sb.2.2.2.2.2.1 (by omega) (by omega) ?_
    refine z_aload_n dX0_sortByName_81 rfl ?_
    refine z_gP 10 rfl (r := b + 5) flX0_51 dX0_sortByName_82 so rfl (qDg_fr qb (zfr_ua hf (by simp)) ob).2.2.2.2.2.1 (by omega) ?_
    refine z_iload_n dX0_sortByName_85 rfl ?_
    refine z_iload_n dX0_sortByName_86 rfl ?_
    refine z_iast dX0_sortByName_87 sb.2.2.2.2.2.1 (by omega) (by omega) ?_
    obtain ⟨m2, em2⟩ : ∃ x, x = zu (zu m1 (b + 5) 0 (m1 (b + 5) ((j + 1 : Nat) : Int))) (b + 5) ((j + 1 : Nat) : Int) (m1 (b + 5) 0) := ⟨_, rfl⟩
    rw [← em2]
    have f2 : zfr [(b + 5, none)] m m2 := by rw [em2]; exact zfr_ua (zfr_ua hf (by simp)) (by simp)
    have e2 : m2 (b + 5) = swp (m1 (b + 5)) ((0 : Nat) : Int) ((j + 1 : Nat) : Int) := by rw [em2]; exact sw_mem (by omega)
    have eK2 : (fun x => m2 b x) = (fun x => m b x) := funext fun x => fB_o f2 (by omega)
    refine z_aload_n dX0_sortByName_88 rfl ?_
    refine z_iconst dX0_sortByName_89 (by decide) ?_
    refine z_iload_n dX0_sortByName_90 rfl ?_
    try dsimp only [zs0, zsI, zsP, zsN, zsJ, zsS, zst2, Nat.reduceAdd]
    refine z_callV mlX0_173 dX0_sortByName_91 so (av := [_, _]) rfl rfl (Nat.le_of_ble_eq_true rfl) (c_sink d o b cap so sb b0 (qDg_fr qb f2 ob) ob 0 (j + 1) s (by omega) (by omega) hs hsb (fun V => pmI V s ∧ (∀ i k : Nat, i ≤ j → j < k → k < s → m b (V (i : Int)) ≤ m b (V (k : Int))) ∧ ∀ i k : Nat, j < i → i < k → k < s → m b (V (i : Int)) ≤ m b (V (k : Int))) (kq_kept (by omega)) (fun x hx => by rw [e2]; exact hpw.1 x hx) (by rw [e2, eK2]; exact hhp) (by rw [e2]; exact ⟨hpw, hq1, hq2⟩)) (Nat.le_refl _) (Nat.le_refl _) (Nat.le_refl _) (Nat.le_refl _) ?_
    rintro _ m3 ⟨rfl, f3, x3h, q3⟩
    refine z_inc dX0_sortByName_94 rfl (by omega) ?_
    refine z_goto (tgt := 58) dX0_sortByName_97 rfl ?_
    try dsimp only [zs0, zsI, zsP, zsN, zsJ, zsS, zst2, Nat.reduceAdd]
    refine zA_wk [_, _, zN] (by exact ⟨Or.inr rfl, Or.inr rfl, Or.inl rfl, trivial⟩) ?_
    rw [show ((j + 1 : Nat) : Int) + -1 = ((j : Nat) : Int) by omega]
    rw [eK2] at x3h
    exact ih m3 (by omega) (fun c i z1 z2 => by rw [f3 c i z1 z2, f2 c i z1 z2]) x3h q3.1 q3.2 hP

theorem l_heap (d : Nat) {E : zE} {m : zM} {P : Option zV → zM → Prop} (o b cap : Int) (so : E.1 o = (6, 20)) (sb : shDg E b cap) (b0 : 0 < b) (qb : qDg m o b) (ob : o < b ∨ b + 8 ≤ o) (s : Nat) (hs : (s : Int) ≤ cap) (hsb : s ≤ 10395) (q18 : m o 18 = (s : Int)) : ∀ (j : Nat) (m1 : zM), (j ≤ s / 2) → (zfr [(b + 5, none)] m m1) → (heap (fun x => m b x) (m1 (b + 5)) j s) → (pmI (m1 (b + 5)) s) → (∀ m', zfr [(b + 5, none), (b + 6, none)] m m' → pmI (m' (b + 5)) s → (∀ i k : Nat, i < k → k < s → m b (m' (b + 5) (i : Int)) ≤ m b (m' (b + 5) (k : Int))) → (∀ x : Nat, x < s → m' (b + 6) (m' (b + 5) (x : Int)) = (x : Int)) → P none m') → zA zX0_sortByName (d + 1) E E P 32 [zP o, zI ((j : Int) - 1), zN] [] m1 E := by
  intro j
  induction j with
  | zero =>
    intro m1 hj hf hh hp hP
    refine z_iload_n dX0_sortByName_32 rfl ?_
    refine z_if_lt (tgt := 51) dX0_sortByName_33 rfl (fun h33 => ?_) (fun h => absurd (by omega) h)
    refine z_aload_n dX0_sortByName_51 rfl ?_
    refine z_gIv 18 rfl flX0_108 dX0_sortByName_52 so rfl ((fB_o hf (by omega)).trans q18) ?_
    refine z_iconst dX0_sortByName_55 (by decide) ?_
    refine z_sub dX0_sortByName_56 (by omega) ?_
    refine z_ist 1 dX0_sortByName_57 rfl (Nat.le_of_ble_eq_true rfl) ?_
    try dsimp only [zs0, zsI, zsP, zsN, zsJ, zsS, zst2, Nat.reduceAdd]
    refine zA_wk [_, _, zN] (by exact ⟨Or.inr rfl, Or.inr rfl, Or.inl rfl, trivial⟩) ?_
    rcases Nat.eq_zero_or_pos s with z | z
    · refine z_iload_n dX0_sortByName_58 rfl ?_
      refine z_if_le (tgt := 100) dX0_sortByName_59 rfl (fun _ => ?_) (fun h => absurd (show ((s : Nat) : Int) - 1 ≤ 0 by omega) h)
      refine z_iconst dX0_sortByName_100 (by decide) ?_
      refine z_ist 1 dX0_sortByName_101 rfl (Nat.le_of_ble_eq_true rfl) ?_
      try dsimp only [zs0, zsI, zsP, zsN, zsJ, zsS, zst2, Nat.reduceAdd]
      refine l_rank d o b cap so sb b0 (qDg_fr qb hf ob) ob s hs hsb ((fB_o hf (by omega)).trans q18) hp s 0 m1 (by omega) zfr_rf (fun x hx => absurd hx (by omega)) (fun m3 f3 r3 => ?_)
      have e5 : m3 (b + 5) = m1 (b + 5) := funext fun x => fB_o f3 (by omega)
      refine hP m3 (fun c i z1 z2 => ?_) (by rw [e5]; exact hp) (fun i k h1 h2 => ?_) (fun x hx => by rw [e5]; exact r3 x hx)
      · rw [fB_o f3 (by simp at z1; omega), fB_o hf (by simp at z1; omega)]
      · rw [e5]
        omega
    · obtain ⟨j', ej⟩ : ∃ j', s = j' + 1 := ⟨s - 1, by omega⟩
      rw [show ((s : Nat) : Int) - 1 = ((j' : Nat) : Int) by omega]
      exact l_takeOut d o b cap so sb b0 qb ob s hs hsb q18 j' m1 (by omega) hf (by rw [← ej]; exact hh) hp ⟨fun i k h1 h2 h3 => by omega, fun i k h1 h2 h3 => by omega⟩ hP
  | succ j ih =>
    intro m1 hj hf hh hp hP
    rw [show ((j + 1 : Nat) : Int) - 1 = ((j : Nat) : Int) by omega]
    have eK1 : (fun x => m1 b x) = (fun x => m b x) := funext fun x => fB_o hf (by omega)
    refine z_iload_n dX0_sortByName_32 rfl ?_
    refine z_if_lt (tgt := 51) dX0_sortByName_33 rfl (fun h => absurd h (by omega)) (fun h33 => ?_)
    refine z_aload_n dX0_sortByName_36 rfl ?_
    refine z_iload_n dX0_sortByName_37 rfl ?_
    refine z_aload_n dX0_sortByName_38 rfl ?_
    refine z_gIv 18 rfl flX0_108 dX0_sortByName_39 so rfl ((fB_o hf (by omega)).trans q18) ?_
    refine z_callV mlX0_173 dX0_sortByName_42 so (av := [_, _]) rfl rfl (Nat.le_of_ble_eq_true rfl) (c_sink d o b cap so sb b0 (qDg_fr qb hf ob) ob j s s (by omega) (Nat.le_refl s) hs hsb (fun V => pmI V s) (pmI_kept (Nat.le_refl s)) hp.1 (by rw [eK1]; exact hh) hp) (Nat.le_refl _) (Nat.le_refl _) (Nat.le_refl _) (Nat.le_refl _) ?_
    rintro _ m3 ⟨rfl, f3, x3h, q3⟩
    refine z_inc dX0_sortByName_45 rfl (by omega) ?_
    refine z_goto (tgt := 32) dX0_sortByName_48 rfl ?_
    try dsimp only [zs0, zsI, zsP, zsN, zsJ, zsS, zst2, Nat.reduceAdd]
    rw [show ((j : Nat) : Int) + -1 = (j : Int) - 1 by omega]
    rw [eK1] at x3h
    exact ih m3 (by omega) (fun c i z1 z2 => by rw [f3 c i z1 z2, hf c i z1 z2]) x3h q3 hP

theorem l_line (d : Nat) {E : zE} {m : zM} {P : Option zV → zM → Prop} (o b cap : Int) (so : E.1 o = (6, 20)) (sb : shDg E b cap) (b0 : 0 < b) (qb : qDg m o b) (ob : o < b ∨ b + 8 ≤ o) (s : Nat) (hs : (s : Int) ≤ cap) (hsb : s ≤ 10395) (q18 : m o 18 = (s : Int)) : ∀ (j : Nat) (k : Nat) (m1 : zM), (k + j = s) → (zfr [(b + 5, none)] m m1) → (∀ x : Nat, x < k → m1 (b + 5) (x : Int) = (x : Int)) → (∀ m', zfr [(b + 5, none), (b + 6, none)] m m' → pmI (m' (b + 5)) s → (∀ i k : Nat, i < k → k < s → m b (m' (b + 5) (i : Int)) ≤ m b (m' (b + 5) (k : Int))) → (∀ x : Nat, x < s → m' (b + 6) (m' (b + 5) (x : Int)) = (x : Int)) → P none m') → zA zX0_sortByName (d + 1) E E P 2 [zP o, zI (k : Nat), zN] [] m1 E := by
  intro j
  induction j with
  | zero =>
    intro k m1 hj hf hk hP
    refine z_iload_n dX0_sortByName_2 rfl ?_
    refine z_aload_n dX0_sortByName_3 rfl ?_
    refine z_gIv 18 rfl flX0_108 dX0_sortByName_4 so rfl ((fB_o hf (by omega)).trans q18) ?_
    refine z_icmp_ge (tgt := 23) dX0_sortByName_7 rfl (fun h7 => ?_) (fun h => absurd (by omega) h)
    refine z_aload_n dX0_sortByName_23 rfl ?_
    refine z_gIv 18 rfl flX0_108 dX0_sortByName_24 so rfl ((fB_o hf (by omega)).trans q18) ?_
    refine z_iconst dX0_sortByName_27 (by decide) ?_
    refine z_div dX0_sortByName_28 (by omega) (by omega) ?_
    refine z_iconst dX0_sortByName_29 (by decide) ?_
    refine z_sub dX0_sortByName_30 (by omega) ?_
    refine z_ist 1 dX0_sortByName_31 rfl (Nat.le_of_ble_eq_true rfl) ?_
    try dsimp only [zs0, zsI, zsP, zsN, zsJ, zsS, zst2, Nat.reduceAdd]
    refine zA_wk [_, _, zN] (by exact ⟨Or.inr rfl, Or.inr rfl, Or.inl rfl, trivial⟩) ?_
    rw [show ((s : Nat) : Int) / 2 - 1 = (((s / 2 : Nat) : Nat) : Int) - 1 by omega]
    exact l_heap d o b cap so sb b0 qb ob s hs hsb q18 (s / 2) m1 (Nat.le_refl _) hf (fun c h1 h2 h3 => by omega) ⟨fun x hx => by rw [hk x (by omega)]; omega, fun x y hx hy z => by rw [hk x (by omega), hk y (by omega)] at z; omega⟩ hP
  | succ j ih =>
    intro k m1 hj hf hk hP
    refine z_iload_n dX0_sortByName_2 rfl ?_
    refine z_aload_n dX0_sortByName_3 rfl ?_
    refine z_gIv 18 rfl flX0_108 dX0_sortByName_4 so rfl ((fB_o hf (by omega)).trans q18) ?_
    refine z_icmp_ge (tgt := 23) dX0_sortByName_7 rfl (fun h => absurd h (by omega)) (fun h7 => ?_)
    refine z_aload_n dX0_sortByName_10 rfl ?_
    refine z_gP 10 rfl (r := b + 5) flX0_51 dX0_sortByName_11 so rfl (qDg_fr qb hf ob).2.2.2.2.2.1 (by omega) ?_
    refine z_iload_n dX0_sortByName_14 rfl ?_
    refine z_iload_n dX0_sortByName_15 rfl ?_
    refine z_iast dX0_sortByName_16 sb.2.2.2.2.2.1 (by omega) (by omega) ?_
    refine z_inc dX0_sortByName_17 rfl (by omega) ?_
    refine z_goto (tgt := 2) dX0_sortByName_20 rfl ?_
    try dsimp only [zs0, zsI, zsP, zsN, zsJ, zsS, zst2, Nat.reduceAdd]
    rw [show (k : Int) + 1 = ((k + 1 : Nat) : Int) by omega]
    refine ih (k + 1) _ (by omega) (zfr_ua hf (by simp)) (fun x hx => ?_) hP
    by_cases z : x = k
    · rw [z, zu_s]
    · rw [zu_j (by omega)]; exact hk x (by omega)

theorem c_sortByName (d : Nat) {E : zE} {m : zM} (o b cap : Int) (so : E.1 o = (6, 20)) (sb : shDg E b cap) (b0 : 0 < b) (qb : qDg m o b) (ob : o < b ∨ b + 8 ≤ o) (s : Nat) (hs : (s : Int) ≤ cap) (hsb : s ≤ 10395) (q18 : m o 18 = (s : Int)) : zR zX0_sortByName (d + 1) [zP o] m E E (fun r m' => r = none ∧ zfr [(b + 5, none), (b + 6, none)] m m' ∧ pmI (m' (b + 5)) s ∧ (∀ i k : Nat, i < k → k < s → m b (m' (b + 5) (i : Int)) ≤ m b (m' (b + 5) (k : Int))) ∧ ∀ x : Nat, x < s → m' (b + 6) (m' (b + 5) (x : Int)) = (x : Int)) := by
  refine zR_go [zP o, zN, zN] (by decide +kernel) (Nat.le_of_ble_eq_true rfl) rfl rfl ?_
  refine z_iconst dX0_sortByName_0 (by decide) ?_
  refine z_ist 1 dX0_sortByName_1 rfl (Nat.le_of_ble_eq_true rfl) ?_
  try dsimp only [zs0, zsI, zsP, zsN, zsJ, zsS, zst2, Nat.reduceAdd]
  exact l_line d o b cap so sb b0 qb ob s hs hsb q18 s 0 m (by omega) zfr_rf (fun x hx => absurd hx (by omega)) (fun m2 f2 h1 h2 h3 => ⟨rfl, f2, h1, h2, h3⟩)
