def fG (g : Int) : List (Int × Option Int) := [(g + 1, none), (g + 2, none), (g + 3, none), (g, some 3), (g, some 4)]
theorem ptG_a {m : zM} {g a j x : Int} (h : ptG m g) (ha : g ≠ a) : ptG (zu m a j x) g := by unfold ptG; rw [zu_a ha, zu_a ha, zu_a ha]; exact h
theorem ptG_j {m : zM} {g j x : Int} (h : ptG m g) (h0 : 0 ≠ j) (h1 : 1 ≠ j) (h2 : 2 ≠ j) : ptG (zu m g j x) g := by unfold ptG; rw [zu_j h0, zu_j h1, zu_j h2]; exact h
/-- what lies next to a point, by lines -/
def gNb (fr to' : Nat → Nat) : Nat → Nat → Nat
  | 0, _ => 0
  | L + 1, p => (gNb fr to' L p ||| (if fr L = p then 2 ^ to' L else 0)) ||| (if to' L = p then 2 ^ fr L else 0)
theorem gNb_congr {fr to' fr2 to2 : Nat → Nat} {p : Nat} : ∀ {L : Nat}, (∀ k, k < L → fr k = fr2 k ∧ to' k = to2 k) → gNb fr to' L p = gNb fr2 to2 L p
  | 0, _ => rfl
  | L + 1, h => by
    have h1 := h L (by omega)
    unfold gNb
    rw [gNb_congr (L := L) (fun k hk => h k (by omega)), h1.1, h1.2]
theorem gNb_s (fr to' : Nat → Nat) (L b e p : Nat) : gNb (fun k => if k = L then b else fr k) (fun k => if k = L then e else to' k) (L + 1) p = (gNb fr to' L p ||| (if b = p then 2 ^ e else 0)) ||| (if e = p then 2 ^ b else 0) := by
  show (gNb _ _ L p ||| (if (if L = L then b else fr L) = p then 2 ^ (if L = L then e else to' L) else 0)) ||| (if (if L = L then e else to' L) = p then 2 ^ (if L = L then b else fr L) else 0) = _
  rw [if_pos rfl, if_pos rfl, gNb_congr (fr2 := fr) (to2 := to') (fun k hk => by rw [if_neg (by omega), if_neg (by omega)]; exact ⟨rfl, rfl⟩)]
theorem gNb_lt {fr to' : Nat → Nat} : ∀ {L : Nat}, (∀ k, k < L → fr k < 8 ∧ to' k < 8) → ∀ p, gNb fr to' L p < 256
  | 0, _, _ => by unfold gNb; decide
  | L + 1, h, p => by
    have h1 := h L (by omega)
    have i1 := gNb_lt (L := L) (fun k hk => h k (by omega)) p
    have a1 : (2 : Nat) ^ fr L < 256 := Nat.pow_lt_pow_right (n := 8) (by omega) h1.1
    have a2 : (2 : Nat) ^ to' L < 256 := Nat.pow_lt_pow_right (n := 8) (by omega) h1.2
    unfold gNb
    refine Nat.or_lt_two_pow (n := 8) (Nat.or_lt_two_pow (n := 8) i1 ?_) ?_
    · split
      · exact a2
      · decide
    · split
      · exact a1
      · decide
/-- a graph of the class -/
def gGr (m : zM) (g : Int) (L : Nat) (fr to' : Nat → Nat) (W : Nat) : Prop := gLn m g L fr to' ∧ m g 4 = ((W : Nat) : Int) ∧ ∀ p : Nat, p < 8 → m (g + 1) (p : Int) = ((gNb fr to' L p : Nat) : Int)
theorem l_fill (d : Nat) {E : zE} {m : zM} {P : Option zV → zM → Prop} (a v n : Int) (sA : E.1 a = (1, n)) (hn : 0 ≤ n ∧ n ≤ 100000) : ∀ (j : Nat) (k : Int) (m1 : zM), (0 ≤ k) → (k + j = n) → (zfr [(a, none)] m m1) → (∀ x, 0 ≤ x → x < k → m1 a x = v) → (∀ m2, zfr [(a, none)] m m2 → (∀ x, 0 ≤ x → x < n → m2 a x = v) → P none m2) → zA zJ7_fill_53178 (d) E E P 5 [zP a, zI v, zI k, zI n] [] m1 E := by
  intro j
  induction j with
  | zero =>
    intro k m1 k0 hk hf hv hP
    refine z_iload_n dJ7_fill_53178_5 rfl ?_
    refine z_iload_n dJ7_fill_53178_6 rfl ?_
    refine z_icmp_ge (tgt := 20) dJ7_fill_53178_7 rfl (fun h7 => ?_) (fun h => absurd (by omega) h)
    refine z_vret dJ7_fill_53178_20 rfl rfl ?_
    exact hP m1 hf (fun x q0 q1 => hv x q0 (by omega))
  | succ j ih =>
    intro k m1 k0 hk hf hv hP
    refine z_iload_n dJ7_fill_53178_5 rfl ?_
    refine z_iload_n dJ7_fill_53178_6 rfl ?_
    refine z_icmp_ge (tgt := 20) dJ7_fill_53178_7 rfl (fun h => absurd h (by omega)) (fun h7 => ?_)
    refine z_aload_n dJ7_fill_53178_10 rfl ?_
    refine z_iload_n dJ7_fill_53178_11 rfl ?_
    refine z_iload_n dJ7_fill_53178_12 rfl ?_
    refine z_iast dJ7_fill_53178_13 sA (by omega) (by omega) ?_
    refine z_inc dJ7_fill_53178_14 rfl (by omega) ?_
    refine z_goto (tgt := 5) dJ7_fill_53178_17 rfl ?_
    try dsimp only [zs0, zsI, zsP, zsN, zsJ, zsS, zst2, Nat.reduceAdd]
    refine ih (k + 1) _ (by omega) (by omega) (zfr_ua hf (by simp)) (fun x q0 q1 => ?_) hP
    by_cases e : x = k
    · rw [e, zu_s]
    · rw [zu_j e]; exact hv x q0 (by omega)

theorem c_fill (d : Nat) {E : zE} {m : zM} (a v n : Int) (sA : E.1 a = (1, n)) (hn : 0 ≤ n ∧ n ≤ 100000) : zR zJ7_fill_53178 (d) [zP a, zI v] m E E (fun r m' => r = none ∧ zfr [(a, none)] m m' ∧ ∀ x, 0 ≤ x → x < n → m' a x = v) := by
  refine zR_go [zP a, zI v, zN, zN] (by decide +kernel) (Nat.le_of_ble_eq_true rfl) rfl rfl ?_
  refine z_iconst dJ7_fill_53178_0 (by decide) ?_
  refine z_ist 2 dJ7_fill_53178_1 rfl (Nat.le_of_ble_eq_true rfl) ?_
  refine z_aload_n dJ7_fill_53178_2 rfl ?_
  refine z_alen dJ7_fill_53178_3 sA (by decide) ?_
  refine z_ist 3 dJ7_fill_53178_4 rfl (Nat.le_of_ble_eq_true rfl) ?_
  try dsimp only [zs0, zsI, zsP, zsN, zsJ, zsS, zst2, Nat.reduceAdd]
  exact l_fill d a v n sA hn n.toNat 0 m (by omega) (by omega) zfr_rf (fun x q0 q1 => by omega) (fun m2 h1 h2 => ⟨rfl, h1, h2⟩)

theorem c_clear (d : Nat) {E : zE} {m : zM} (g : Int) (g0 : 0 < g) (sG : shG E g) (pG : ptG m g) (W : Nat) (fr to' : Nat → Nat) : zR zX1_clear (d + 1) [zP g, zI (W : Nat)] m E E (fun r m' => r = none ∧ zfr (fG g) m m' ∧ gGr m' g 0 fr to' W ∧ ptG m' g) := by
  refine zR_go [zP g, zI (W : Nat)] (by decide +kernel) (Nat.le_of_ble_eq_true rfl) rfl rfl ?_
  refine z_aload_n dX1_clear_0 rfl ?_
  refine z_iload_n dX1_clear_1 rfl ?_
  refine z_pI 4 rfl (fpX1_21 _) dX1_clear_2 sG.1 rfl ?_
  refine z_aload_n dX1_clear_5 rfl ?_
  refine z_iconst dX1_clear_6 (by decide) ?_
  refine z_pI 3 rfl (fpX1_25 _) dX1_clear_7 sG.1 rfl ?_
  obtain ⟨m1, em1⟩ : ∃ x, x = zu (zu m g 4 (W : Nat)) g 3 0 := ⟨_, rfl⟩
  rw [← em1]
  have p1 : ptG m1 g := by rw [em1]; exact ptG_j (ptG_j pG (by decide) (by decide) (by decide)) (by decide) (by decide) (by decide)
  refine z_aload_n dX1_clear_10 rfl ?_
  refine z_gP 0 rfl (r := (g + 1)) flX1_9 dX1_clear_11 sG.1 rfl p1.1 (by omega) ?_
  refine z_iconst dX1_clear_14 (by decide) ?_
  refine z_callS mlX1_28 dX1_clear_15 (av := [_, _]) rfl rfl (Nat.le_of_ble_eq_true rfl) (c_fill _ (g + 1) 0 8 sG.2.1 (by decide)) (Nat.le_refl _) (Nat.le_refl _) (Nat.le_refl _) (Nat.le_refl _) ?_
  rintro _ m2 ⟨rfl, f2, v2⟩
  refine z_vret dX1_clear_18 rfl rfl ?_
  have hg : m2 g = m1 g := by funext j; exact f2 g j (by simp; omega) (by simp)
  refine ⟨rfl, ?_, ⟨⟨?_, by decide, fun k hk => absurd hk (by omega)⟩, ?_, fun p hp => v2 p (by omega) (by omega)⟩, ?_⟩
  · intro a j h1 h2
    rw [f2 a j (by simp; intro h; exact h1 (by simp [fG, h])) (by simp), em1]
    have hne : ¬ (a = g ∧ (j = 3 ∨ j = 4)) := fun h => h2 (by simp [fG, h.1]; exact h.2)
    by_cases e : a = g
    · rw [e, zu_j (by omega), zu_j (by omega)]
    · rw [zu_a e, zu_a e]
  · rw [hg, em1, zu_s]; rfl
  · rw [hg, em1, zu_j (by decide), zu_s]
  · unfold ptG; rw [hg]; exact p1

theorem c_addLine (d : Nat) {E : zE} {m : zM} (g : Int) (g0 : 0 < g) (sG : shG E g) (pG : ptG m g) (L : Nat) (fr to' : Nat → Nat) (W : Nat) (hG : gGr m g L fr to' W) (co : Int) (b e : Nat) (h0 : 0 ≤ co) (hb : co / 100 = (b : Int)) (he : co / 10 % 10 = (e : Int)) (hb8 : b < 8) (he8 : e < 8) (hL6 : L < 6) : zR zX1_addLine (d) [zP g, zI co] m E E (fun r m' => r = none ∧ zfr (fG g) m m' ∧ gGr m' g (L + 1) (fun k => if k = L then b else fr k) (fun k => if k = L then e else to' k) W ∧ ptG m' g) := by
  have hNb := gNb_lt (fr := fr) (to' := to') (L := L) (fun k hk => (hG.1.2.2 k hk).2.2) b
  have hNe := gNb_lt (fr := fr) (to' := to') (L := L) (fun k hk => (hG.1.2.2 k hk).2.2) e
  have he2 : (2 : Nat) ^ e < 256 := Nat.pow_lt_pow_right (n := 8) (by omega) he8
  refine zR_go [zP g, zI co, zN, zN] (by decide +kernel) (Nat.le_of_ble_eq_true rfl) rfl rfl ?_
  refine z_iload_n dX1_addLine_0 rfl ?_
  refine z_bipush dX1_addLine_1 rfl (by decide) ?_
  refine z_div dX1_addLine_3 (by omega) (by omega) ?_
  refine z_ist 2 dX1_addLine_4 rfl (Nat.le_of_ble_eq_true rfl) ?_
  refine z_iload_n dX1_addLine_5 rfl ?_
  refine z_bipush dX1_addLine_6 rfl (by decide) ?_
  refine z_div dX1_addLine_8 (by omega) (by omega) ?_
  refine z_bipush dX1_addLine_9 rfl (by decide) ?_
  refine z_rem dX1_addLine_11 (by omega) (by omega) ?_
  refine z_ist 3 dX1_addLine_12 rfl (Nat.le_of_ble_eq_true rfl) ?_
  refine z_iload_n dX1_addLine_13 rfl ?_
  refine z_bipush dX1_addLine_14 rfl (by decide) ?_
  try dsimp only [zs0, zsI, zsP, zsN, zsJ, zsS, zst2, Nat.reduceAdd]
  refine z_icmp_ge (tgt := 88) dX1_addLine_16 rfl (fun h => absurd h (by omega)) (fun h16 => ?_)
  refine z_iload_n dX1_addLine_19 rfl ?_
  refine z_bipush dX1_addLine_20 rfl (by decide) ?_
  refine z_icmp_ge (tgt := 88) dX1_addLine_22 rfl (fun h => absurd h (by omega)) (fun h22 => ?_)
  refine z_aload_n dX1_addLine_25 rfl ?_
  refine z_gIv 3 rfl flX1_25 dX1_addLine_26 sG.1 rfl hG.1.1 ?_
  refine z_bipush dX1_addLine_29 rfl (by decide) ?_
  refine z_icmp_ge (tgt := 88) dX1_addLine_31 rfl (fun h => absurd h (by omega)) (fun h31 => ?_)
  refine z_aload_n dX1_addLine_34 rfl ?_
  refine z_gP 1 rfl (r := (g + 2)) flX1_15 dX1_addLine_35 sG.1 rfl pG.2.1 (by omega) ?_
  refine z_aload_n dX1_addLine_38 rfl ?_
  refine z_gIv 3 rfl flX1_25 dX1_addLine_39 sG.1 rfl hG.1.1 ?_
  refine z_iload_n dX1_addLine_42 rfl ?_
  refine z_iast dX1_addLine_43 sG.2.2.1 (by omega) (by omega) ?_
  refine z_aload_n dX1_addLine_44 rfl ?_
  refine z_gP 2 rfl (r := (g + 3)) flX1_18 dX1_addLine_45 sG.1 rfl (Eq.trans (zu_a (by omega)) pG.2.2) (by omega) ?_
  refine z_aload_n dX1_addLine_48 rfl ?_
  refine z_gIv 3 rfl flX1_25 dX1_addLine_49 sG.1 rfl ((zu_a (by omega)).trans hG.1.1) ?_
  refine z_iload_n dX1_addLine_52 rfl ?_
  refine z_iast dX1_addLine_53 sG.2.2.2 (by omega) (by omega) ?_
  refine z_aload_n dX1_addLine_54 rfl ?_
  refine z_dup dX1_addLine_55 rfl ?_
  refine z_gIv 3 rfl flX1_25 dX1_addLine_56 sG.1 rfl ((zu_a (by omega)).trans ((zu_a (by omega)).trans hG.1.1)) ?_
  refine z_iconst dX1_addLine_59 (by decide) ?_
  refine z_add dX1_addLine_60 (by omega) ?_
  refine z_pI 3 rfl (fpX1_25 _) dX1_addLine_61 sG.1 rfl ?_
  rw [hb, he]
  obtain ⟨m1, em1⟩ : ∃ x, x = zu (zu (zu m (g + 2) (L : Nat) (b : Nat)) (g + 3) (L : Nat) (e : Nat)) g 3 ((L : Nat) + 1) := ⟨_, rfl⟩
  rw [← em1]
  have p1 : ptG m1 g := by rw [em1]; exact ptG_j (ptG_a (ptG_a pG (by omega)) (by omega)) (by decide) (by decide) (by decide)
  have n1 : m1 (g + 1) = m (g + 1) := by funext j; rw [em1, zu_a (by omega), zu_a (by omega), zu_a (by omega)]
  refine z_aload_n dX1_addLine_64 rfl ?_
  refine z_gP 0 rfl (r := (g + 1)) flX1_9 dX1_addLine_65 sG.1 rfl p1.1 (by omega) ?_
  refine z_iload_n dX1_addLine_68 rfl ?_
  refine z_dup2 dX1_addLine_69 rfl rfl ?_
  refine z_ialv dX1_addLine_70 sG.2.1 (by omega) (by omega) ((congrFun n1 _).trans (hG.2.2 b hb8)) ?_
  refine z_iconst dX1_addLine_71 (by decide) ?_
  refine z_iload_n dX1_addLine_72 rfl ?_
  refine z_ishl dX1_addLine_73 ?_
  refine z_ior dX1_addLine_74 ?_
  rw [zor_b (by omega) (by omega)]
  refine z_iast dX1_addLine_75 sG.2.1 (by omega) (by omega) ?_
  obtain ⟨m2, em2⟩ : ∃ x, x = zu m1 (g + 1) (b : Nat) ((gNb fr to' L b ||| 2 ^ e : Nat) : Int) := ⟨_, rfl⟩
  rw [← em2]
  have p2 : ptG m2 g := by rw [em2]; exact ptG_a p1 (by omega)
  have n2 : ∀ p : Nat, p < 8 → m2 (g + 1) p = ((if p = b then gNb fr to' L b ||| 2 ^ e else gNb fr to' L p : Nat) : Int) := fun p hp => by
    rw [em2]
    by_cases q : p = b
    · rw [q, zu_s, if_pos rfl]
    · rw [zu_j (by omega), n1, if_neg q]; exact hG.2.2 p hp
  have hlt2 : (if e = b then gNb fr to' L b ||| 2 ^ e else gNb fr to' L e) < 256 := by split; exact Nat.or_lt_two_pow (n := 8) hNb he2; exact hNe
  refine z_aload_n dX1_addLine_76 rfl ?_
  refine z_gP 0 rfl (r := (g + 1)) flX1_9 dX1_addLine_77 sG.1 rfl p2.1 (by omega) ?_
  refine z_iload_n dX1_addLine_80 rfl ?_
  refine z_dup2 dX1_addLine_81 rfl rfl ?_
  refine z_ialv dX1_addLine_82 sG.2.1 (by omega) (by omega) (n2 e he8) ?_
  refine z_iconst dX1_addLine_83 (by decide) ?_
  refine z_iload_n dX1_addLine_84 rfl ?_
  refine z_ishl dX1_addLine_85 ?_
  refine z_ior dX1_addLine_86 ?_
  rw [zor_b (by omega) (by omega)]
  refine z_iast dX1_addLine_87 sG.2.1 (by omega) (by omega) ?_
  refine z_vret dX1_addLine_88 rfl rfl ?_
  have hgr : zu m2 (g + 1) (e : Nat) (((if e = b then gNb fr to' L b ||| 2 ^ e else gNb fr to' L e) ||| 2 ^ b : Nat) : Int) g = m1 g := by funext j; rw [zu_a (by omega), em2, zu_a (by omega)]
  refine ⟨rfl, ?_, ⟨⟨?_, by omega, fun k hk => ?_⟩, ?_, fun p hp => ?_⟩, ?_⟩
  · refine zfr_ua ?_ (by simp [fG])
    rw [em2]
    refine zfr_ua ?_ (by simp [fG])
    rw [em1]
    exact zfr_uj (zfr_ua (zfr_ua zfr_rf (by simp [fG])) (by simp [fG])) (by simp [fG])
  · rw [hgr, em1, zu_s]; omega
  · rw [zu_a (by omega), zu_a (by omega), em2, zu_a (by omega), zu_a (by omega), em1, zu_a (by omega), zu_a (by omega), zu_a (a := g) (b := g + 3) (by omega)]
    by_cases q : k = L
    · subst q
      rw [zu_s, zu_s]
      simp [hb8, he8]
    · rw [zu_j (by omega), zu_j (by omega), zu_a (by omega)]
      simp only [q, if_false]
      exact hG.1.2.2 k (by omega)
  · rw [hgr, em1, zu_j (by decide), zu_a (by omega), zu_a (by omega)]; exact hG.2.1
  · have hx := gNb_s fr to' L b e p
    rw [hx]
    by_cases q : p = e
    · subst q
      rw [zu_s]
      by_cases q2 : p = b
      · rw [if_pos q2, q2, if_pos rfl]
      · rw [if_neg q2, if_neg (fun h => q2 h.symm), if_pos rfl]
        simp
    · rw [zu_j (by omega), n2 p hp, if_neg (show ¬ e = p from fun h => q h.symm)]
      by_cases q2 : p = b
      · rw [if_pos q2, if_pos (show b = p from q2.symm), q2]; simp
      · rw [if_neg q2, if_neg (show ¬ b = p from fun h => q2 h.symm)]; simp
  · exact ptG_a p2 (by omega)
