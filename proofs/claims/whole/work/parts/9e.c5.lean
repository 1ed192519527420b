def gDel (N : Nat → Nat) (x y : Nat) : Nat → Nat := fun p => if p = x then N x ^^^ (N x &&& 2 ^ y) else N p
def gAdd (N : Nat → Nat) (x y : Nat) : Nat → Nat := fun p => if p = x then N x ||| 2 ^ y else N p
theorem gDel_s {N : Nat → Nat} {x y : Nat} : gDel N x y x = N x ^^^ (N x &&& 2 ^ y) := if_pos rfl
theorem gDel_o {N : Nat → Nat} {x y p : Nat} (h : p ≠ x) : gDel N x y p = N p := if_neg h
theorem gDel_lt {N : Nat → Nat} {x y p : Nat} (h : N p < 256) (hx : N x < 256) : gDel N x y p < 256 := by
  unfold gDel
  split
  · exact Nat.xor_lt_two_pow (n := 8) hx (Nat.lt_of_le_of_lt Nat.and_le_left hx)
  · exact h
theorem andn_or {x y : Nat} (h : x.testBit y = true) : (x ^^^ (x &&& 2 ^ y)) ||| 2 ^ y = x := by
  refine zset_ext (fun i => ?_)
  rw [Nat.testBit_or, andn_bit, Nat.testBit_two_pow]
  by_cases e : y = i
  · subst e; rw [h]; simp
  · simp [e]
theorem gNb_bit (fr to' : Nat → Nat) : ∀ (L p q : Nat), (gNb fr to' L p).testBit q = true ↔ ∃ k, k < L ∧ ((fr k = p ∧ to' k = q) ∨ (to' k = p ∧ fr k = q))
  | 0, p, q => by simp [gNb]
  | L + 1, p, q => by
    unfold gNb
    rw [Nat.testBit_or, Nat.testBit_or, Bool.or_eq_true, Bool.or_eq_true, gNb_bit fr to' L p q]
    have e1 : (if fr L = p then 2 ^ to' L else 0).testBit q = true ↔ fr L = p ∧ to' L = q := by
      split
      · rw [Nat.testBit_two_pow]; simp [*]
      · rw [Nat.zero_testBit]; simp [*]
    have e2 : (if to' L = p then 2 ^ fr L else 0).testBit q = true ↔ to' L = p ∧ fr L = q := by
      split
      · rw [Nat.testBit_two_pow]; simp [*]
      · rw [Nat.zero_testBit]; simp [*]
    rw [e1, e2]
    constructor
    · rintro ((⟨k, h1, h2⟩ | h) | h)
      · exact ⟨k, by omega, h2⟩
      · exact ⟨L, by omega, Or.inl h⟩
      · exact ⟨L, by omega, Or.inr h⟩
    · rintro ⟨k, h1, h2⟩
      by_cases e : k = L
      · subst e
        rcases h2 with h2 | h2
        · exact Or.inl (Or.inr h2)
        · exact Or.inr h2
      · exact Or.inl (Or.inl ⟨k, by omega, h2⟩)
theorem gLn_n {m : zM} {g x v : Int} {L : Nat} {fr to' : Nat → Nat} (h : gLn m g L fr to') : gLn (zu m (g + 1) x v) g L fr to' := ⟨by rw [zu_a (by omega)]; exact h.1, h.2.1, fun k hk => by rw [zu_a (by omega), zu_a (by omega)]; exact h.2.2 k hk⟩
theorem nr_u {m : zM} {g : Int} {N : Nat → Nat} {x v : Nat} (h : ∀ p : Nat, p < 8 → m (g + 1) p = ((N p : Nat) : Int)) : ∀ p : Nat, p < 8 → zu m (g + 1) (x : Int) ((v : Nat) : Int) (g + 1) p = (((fun p => if p = x then v else N p) p : Nat) : Int) := fun p hp => by
  by_cases e : p = x
  · rw [e, zu_s]; simp
  · rw [zu_j (by omega), h p hp]; simp [e]
/-- does a line alone hold -/
noncomputable def gBr (L : Nat) (fr to' : Nat → Nat) (W k : Nat) : Int := zb (fr k ≠ to' k ∧ gTw L fr to' k = false ∧ (gRs (gDel (gDel (gNb fr to' L) (fr k) (to' k)) (to' k) (fr k)) W (2 ^ fr k)).testBit (to' k) = false)
theorem l_bridges1 (d : Nat) {E : zE} {m : zM} {P : Option zV → zM → Prop} (g : Int) (g0 : 0 < g) (sG : shG E g) (pG : ptG m g) (L : Nat) (fr to' : Nat → Nat) (W : Nat) (hG : gGr m g L fr to' W) (hW : W < 256) : ∀ (j : Nat) (k : Nat) (n : Int), (k + j = L) → (0 ≤ n ∧ n ≤ k) → (P (some (zI (n + zsum (fun k => gBr L fr to' W k.toNat) j (k : Int)))) m) → zA zX1_bridges (d + 2) E E P 4 [zP g, zI n, zI (k : Nat), zN] [] m E := by
  intro j
  induction j with
  | zero =>
    intro k n hk hn hP
    have hLc := hG.1.1
    have hL6 := hG.1.2.1
    refine z_iload_n dX1_bridges_4 rfl ?_
    refine z_aload_n dX1_bridges_5 rfl ?_
    refine z_gIv 3 rfl flX1_25 dX1_bridges_6 sG.1 rfl hG.1.1 ?_
    refine z_icmp_ge (tgt := 179) dX1_bridges_9 rfl (fun h9 => ?_) (fun h => absurd (by omega) h)
    refine z_iload_n dX1_bridges_179 rfl ?_
    refine z_iret dX1_bridges_180 rfl rfl ?_
    rw [zsum_0, Int.add_zero] at hP
    exact hP
  | succ j ih =>
    intro k n hk hn hP
    have hLc := hG.1.1
    have hL6 := hG.1.2.1
    obtain ⟨q1, q2, q3, q4⟩ := hG.1.2.2 k (by omega)
    have hNl := gNb_lt (fr := fr) (to' := to') (L := L) (fun k hk => (hG.1.2.2 k hk).2.2)
    have hNa := hNl (fr k)
    have hNb := hNl (to' k)
    have b1 : ((gNb fr to' L) (fr k)).testBit (to' k) = true := (gNb_bit fr to' L _ _).mpr ⟨k, by omega, Or.inl ⟨rfl, rfl⟩⟩
    have b2 : ((gNb fr to' L) (to' k)).testBit (fr k) = true := (gNb_bit fr to' L _ _).mpr ⟨k, by omega, Or.inr ⟨rfl, rfl⟩⟩
    have ha2 : (2 : Nat) ^ (fr k) < 256 := Nat.pow_lt_pow_right (n := 8) (by omega) q3
    have hb2 : (2 : Nat) ^ (to' k) < 256 := Nat.pow_lt_pow_right (n := 8) (by omega) q4
    have hxa : (gNb fr to' L) (fr k) ^^^ ((gNb fr to' L) (fr k) &&& 2 ^ (to' k)) < 256 := Nat.xor_lt_two_pow (n := 8) hNa (Nat.lt_of_le_of_lt Nat.and_le_left hNa)
    have hxb : (gNb fr to' L) (to' k) ^^^ ((gNb fr to' L) (to' k) &&& 2 ^ (fr k)) < 256 := Nat.xor_lt_two_pow (n := 8) hNb (Nat.lt_of_le_of_lt Nat.and_le_left hNb)
    have hDl : ∀ p, p < 8 → (gDel (gDel (gNb fr to' L) (fr k) (to' k)) (to' k) (fr k)) p < 256 := fun p hp => gDel_lt (gDel_lt (hNl p) (hNl _)) (gDel_lt (hNl _) (hNl _))
    have hrl := gRs_lt (N := (gDel (gDel (gNb fr to' L) (fr k) (to' k)) (to' k) (fr k))) (W := W) (A := 2 ^ (fr k))
    refine z_iload_n dX1_bridges_4 rfl ?_
    refine z_aload_n dX1_bridges_5 rfl ?_
    refine z_gIv 3 rfl flX1_25 dX1_bridges_6 sG.1 rfl hG.1.1 ?_
    refine z_icmp_ge (tgt := 179) dX1_bridges_9 rfl (fun h => absurd h (by omega)) (fun h9 => ?_)
    refine z_aload_n dX1_bridges_12 rfl ?_
    refine z_gP 1 rfl (r := (g + 2)) flX1_15 dX1_bridges_13 sG.1 rfl pG.2.1 (by omega) ?_
    refine z_iload_n dX1_bridges_16 rfl ?_
    refine z_ialv dX1_bridges_17 sG.2.2.1 (by omega) (by omega) (hG.1.2.2 k (by omega)).1 ?_
    refine z_aload_n dX1_bridges_18 rfl ?_
    refine z_gP 2 rfl (r := (g + 3)) flX1_18 dX1_bridges_19 sG.1 rfl pG.2.2 (by omega) ?_
    refine z_iload_n dX1_bridges_22 rfl ?_
    refine z_ialv dX1_bridges_23 sG.2.2.2 (by omega) (by omega) (hG.1.2.2 k (by omega)).2.1 ?_
    refine z_icmp_eq (tgt := 173) dX1_bridges_24 rfl (fun h24 => ?_) (fun h24 => ?_)
    · refine z_inc dX1_bridges_173 rfl (by omega) ?_
      refine z_goto (tgt := 4) dX1_bridges_176 rfl ?_
      try dsimp only [zs0, zsI, zsP, zsN, zsJ, zsS, zst2, Nat.reduceAdd]
      have e : gBr L fr to' W k = 0 := by unfold gBr; rw [zb_f (fun h => h.1 (by omega))]
      rw [zsum_s, ← Int.add_assoc, Int.toNat_natCast, e, show (k : Int) + 1 = ((k + 1 : Nat) : Int) by omega] at hP
      rw [show (k : Int) + 1 = ((k + 1 : Nat) : Int) by omega]
      rw [Int.add_zero] at hP
      refine zA_wk [_, _, _, zN] (by exact ⟨Or.inr rfl, Or.inr rfl, Or.inr rfl, Or.inl rfl, trivial⟩) ?_
      exact ih (k + 1) _ (by omega) (by omega) hP
    · refine z_aload_n dX1_bridges_27 rfl ?_
      refine z_iload_n dX1_bridges_28 rfl ?_
      refine z_callV mlX1_49 dX1_bridges_29 sG.1 (av := [_]) rfl rfl (Nat.le_of_ble_eq_true rfl) (c_hasTwin _ g g0 sG pG L fr to' hG.1 k (by omega)) (Nat.le_refl _) (Nat.le_refl _) (Nat.le_refl _) (Nat.le_refl _) ?_
      rintro _ _ ⟨rfl, rfl⟩
      refine z_ifz_ne (tgt := 173) dX1_bridges_32 rfl (fun h32 => ?_) (fun h32 => ?_)
      · refine z_inc dX1_bridges_173 rfl (by omega) ?_
        refine z_goto (tgt := 4) dX1_bridges_176 rfl ?_
        try dsimp only [zs0, zsI, zsP, zsN, zsJ, zsS, zst2, Nat.reduceAdd]
        have e : gBr L fr to' W k = 0 := by unfold gBr; rw [zb_f (fun h => by have := h.2.1; rw [h32] at this; cases this)]
        rw [zsum_s, ← Int.add_assoc, Int.toNat_natCast, e, show (k : Int) + 1 = ((k + 1 : Nat) : Int) by omega] at hP
        rw [show (k : Int) + 1 = ((k + 1 : Nat) : Int) by omega]
        rw [Int.add_zero] at hP
        refine zA_wk [_, _, _, zN] (by exact ⟨Or.inr rfl, Or.inr rfl, Or.inr rfl, Or.inl rfl, trivial⟩) ?_
        exact ih (k + 1) _ (by omega) (by omega) hP
      · refine z_aload_n dX1_bridges_35 rfl ?_
        refine z_gP 0 rfl (r := (g + 1)) flX1_9 dX1_bridges_36 sG.1 rfl pG.1 (by omega) ?_
        refine z_aload_n dX1_bridges_39 rfl ?_
        refine z_gP 1 rfl (r := (g + 2)) flX1_15 dX1_bridges_40 sG.1 rfl pG.2.1 (by omega) ?_
        refine z_iload_n dX1_bridges_43 rfl ?_
        refine z_ialv dX1_bridges_44 sG.2.2.1 (by omega) (by omega) (hG.1.2.2 k (by omega)).1 ?_
        refine z_dup2 dX1_bridges_45 rfl rfl ?_
        refine z_ialv dX1_bridges_46 sG.2.1 (by omega) (by omega) (hG.2.2 (fr k) (by omega)) ?_
        refine z_iconst dX1_bridges_47 (by decide) ?_
        refine z_aload_n dX1_bridges_48 rfl ?_
        refine z_gP 2 rfl (r := (g + 3)) flX1_18 dX1_bridges_49 sG.1 rfl pG.2.2 (by omega) ?_
        refine z_iload_n dX1_bridges_52 rfl ?_
        refine z_ialv dX1_bridges_53 sG.2.2.2 (by omega) (by omega) (hG.1.2.2 k (by omega)).2.1 ?_
        refine z_ishl dX1_bridges_54 ?_
        rw [zshl_1 (by omega)]
        refine z_iconst dX1_bridges_55 (by decide) ?_
        refine z_ixor dX1_bridges_56 ?_
        refine z_iand dX1_bridges_57 ?_
        rw [zandn_N (by omega) (by omega)]
        refine z_iast dX1_bridges_58 sG.2.1 (by omega) (by omega) ?_
        obtain ⟨m1, em1⟩ : ∃ x, x = zu m (g + 1) ((fr k) : Nat) ((((gNb fr to' L) (fr k) ^^^ ((gNb fr to' L) (fr k) &&& 2 ^ (to' k)) : Nat) : Int)) := ⟨_, rfl⟩
        rw [← em1]
        have p1 : ptG m1 g := by rw [em1]; exact ptG_a pG (by omega)
        have l1 : gLn m1 g L fr to' := by rw [em1]; exact gLn_n hG.1
        have w1 : m1 g 4 = ((W : Nat) : Int) := by rw [em1, zu_a (by omega)]; exact hG.2.1
        have n1 : ∀ p : Nat, p < 8 → m1 (g + 1) p = (((gDel (gNb fr to' L) (fr k) (to' k)) p : Nat) : Int) := by rw [em1]; exact nr_u hG.2.2
        refine z_aload_n dX1_bridges_59 rfl ?_
        refine z_gP 0 rfl (r := (g + 1)) flX1_9 dX1_bridges_60 sG.1 rfl p1.1 (by omega) ?_
        refine z_aload_n dX1_bridges_63 rfl ?_
        refine z_gP 2 rfl (r := (g + 3)) flX1_18 dX1_bridges_64 sG.1 rfl p1.2.2 (by omega) ?_
        refine z_iload_n dX1_bridges_67 rfl ?_
        refine z_ialv dX1_bridges_68 sG.2.2.2 (by omega) (by omega) (l1.2.2 k (by omega)).2.1 ?_
        refine z_dup2 dX1_bridges_69 rfl rfl ?_
        refine z_ialv dX1_bridges_70 sG.2.1 (by omega) (by omega) (n1 (to' k) (by omega)) ?_
        rw [gDel_o (show (to' k) ≠ (fr k) by omega)]
        refine z_iconst dX1_bridges_71 (by decide) ?_
        refine z_aload_n dX1_bridges_72 rfl ?_
        refine z_gP 1 rfl (r := (g + 2)) flX1_15 dX1_bridges_73 sG.1 rfl p1.2.1 (by omega) ?_
        refine z_iload_n dX1_bridges_76 rfl ?_
        refine z_ialv dX1_bridges_77 sG.2.2.1 (by omega) (by omega) (l1.2.2 k (by omega)).1 ?_
        refine z_ishl dX1_bridges_78 ?_
        rw [zshl_1 (by omega)]
        refine z_iconst dX1_bridges_79 (by decide) ?_
        refine z_ixor dX1_bridges_80 ?_
        refine z_iand dX1_bridges_81 ?_
        rw [zandn_N (by omega) (by omega)]
        refine z_iast dX1_bridges_82 sG.2.1 (by omega) (by omega) ?_
        obtain ⟨m2, em2⟩ : ∃ x, x = zu m1 (g + 1) ((to' k) : Nat) ((((gNb fr to' L) (to' k) ^^^ ((gNb fr to' L) (to' k) &&& 2 ^ (fr k)) : Nat) : Int)) := ⟨_, rfl⟩
        rw [← em2]
        have p2 : ptG m2 g := by rw [em2]; exact ptG_a p1 (by omega)
        have l2 : gLn m2 g L fr to' := by rw [em2]; exact gLn_n l1
        have w2 : m2 g 4 = ((W : Nat) : Int) := by rw [em2, zu_a (by omega)]; exact w1
        have n2 : ∀ p : Nat, p < 8 → m2 (g + 1) p = (((gDel (gDel (gNb fr to' L) (fr k) (to' k)) (to' k) (fr k)) p : Nat) : Int) := by
          intro p hp
          rw [em2]
          by_cases e : p = to' k
          · rw [e, zu_s, gDel_s, gDel_o (by omega)]
          · rw [zu_j (by omega), n1 p hp, gDel_o e]
        refine z_aload_n dX1_bridges_83 rfl ?_
        refine z_iconst dX1_bridges_84 (by decide) ?_
        refine z_aload_n dX1_bridges_85 rfl ?_
        refine z_gP 1 rfl (r := (g + 2)) flX1_15 dX1_bridges_86 sG.1 rfl p2.2.1 (by omega) ?_
        refine z_iload_n dX1_bridges_89 rfl ?_
        refine z_ialv dX1_bridges_90 sG.2.2.1 (by omega) (by omega) (l2.2.2 k (by omega)).1 ?_
        refine z_ishl dX1_bridges_91 ?_
        rw [zshl_1 (by omega)]
        refine z_aload_n dX1_bridges_92 rfl ?_
        refine z_gIv 4 rfl flX1_21 dX1_bridges_93 sG.1 rfl w2 ?_
        refine z_callV mlX1_45 dX1_bridges_96 sG.1 (av := [_, _]) rfl rfl (Nat.le_of_ble_eq_true rfl) (c_reach _ g g0 sG p2 (gDel (gDel (gNb fr to' L) (fr k) (to' k)) (to' k) (fr k)) hDl n2 (2 ^ (fr k)) W ha2 hW) (Nat.le_refl _) (Nat.le_refl _) (Nat.le_refl _) (Nat.le_refl _) ?_
        rintro _ _ ⟨rfl, rfl⟩
        refine z_aload_n dX1_bridges_99 rfl ?_
        refine z_gP 2 rfl (r := (g + 3)) flX1_18 dX1_bridges_100 sG.1 rfl p2.2.2 (by omega) ?_
        refine z_iload_n dX1_bridges_103 rfl ?_
        refine z_ialv dX1_bridges_104 sG.2.2.2 (by omega) (by omega) (l2.2.2 k (by omega)).2.1 ?_
        refine z_ishr dX1_bridges_105 ?_
        refine z_iconst dX1_bridges_106 (by decide) ?_
        refine z_iand dX1_bridges_107 ?_
        rw [zbit (by omega) (by omega)]
        refine z_if_ne (tgt := 115) dX1_bridges_108 rfl (fun h108 => ?_) (fun h108 => ?_)
        · refine z_iconst dX1_bridges_115 (by decide) ?_
          refine z_ist 3 dX1_bridges_116 rfl (Nat.le_of_ble_eq_true rfl) ?_
          refine z_aload_n dX1_bridges_117 rfl ?_
          refine z_gP 0 rfl (r := (g + 1)) flX1_9 dX1_bridges_118 sG.1 rfl p2.1 (by omega) ?_
          refine z_aload_n dX1_bridges_121 rfl ?_
          refine z_gP 1 rfl (r := (g + 2)) flX1_15 dX1_bridges_122 sG.1 rfl p2.2.1 (by omega) ?_
          refine z_iload_n dX1_bridges_125 rfl ?_
          refine z_ialv dX1_bridges_126 sG.2.2.1 (by omega) (by omega) (l2.2.2 k (by omega)).1 ?_
          refine z_dup2 dX1_bridges_127 rfl rfl ?_
          refine z_ialv dX1_bridges_128 sG.2.1 (by omega) (by omega) (n2 (fr k) (by omega)) ?_
          rw [gDel_o (show (fr k) ≠ (to' k) by omega), gDel_s]
          refine z_iconst dX1_bridges_129 (by decide) ?_
          refine z_aload_n dX1_bridges_130 rfl ?_
          refine z_gP 2 rfl (r := (g + 3)) flX1_18 dX1_bridges_131 sG.1 rfl p2.2.2 (by omega) ?_
          refine z_iload_n dX1_bridges_134 rfl ?_
          refine z_ialv dX1_bridges_135 sG.2.2.2 (by omega) (by omega) (l2.2.2 k (by omega)).2.1 ?_
          refine z_ishl dX1_bridges_136 ?_
          refine z_ior dX1_bridges_137 ?_
          rw [zor_b (by omega) (by omega), andn_or b1]
          refine z_iast dX1_bridges_138 sG.2.1 (by omega) (by omega) ?_
          obtain ⟨m3, em3⟩ : ∃ x, x = zu m2 (g + 1) ((fr k) : Nat) (((gNb fr to' L) (fr k) : Nat) : Int) := ⟨_, rfl⟩
          rw [← em3]
          have p3 : ptG m3 g := by rw [em3]; exact ptG_a p2 (by omega)
          have l3 : gLn m3 g L fr to' := by rw [em3]; exact gLn_n l2
          have n3 : m3 (g + 1) (to' k) = (((gNb fr to' L) (to' k) ^^^ ((gNb fr to' L) (to' k) &&& 2 ^ (fr k)) : Nat) : Int) := by rw [em3, zu_j (by omega), em2, zu_s]
          refine z_aload_n dX1_bridges_139 rfl ?_
          refine z_gP 0 rfl (r := (g + 1)) flX1_9 dX1_bridges_140 sG.1 rfl p3.1 (by omega) ?_
          refine z_aload_n dX1_bridges_143 rfl ?_
          refine z_gP 2 rfl (r := (g + 3)) flX1_18 dX1_bridges_144 sG.1 rfl p3.2.2 (by omega) ?_
          refine z_iload_n dX1_bridges_147 rfl ?_
          refine z_ialv dX1_bridges_148 sG.2.2.2 (by omega) (by omega) (l3.2.2 k (by omega)).2.1 ?_
          refine z_dup2 dX1_bridges_149 rfl rfl ?_
          refine z_ialv dX1_bridges_150 sG.2.1 (by omega) (by omega) n3 ?_
          refine z_iconst dX1_bridges_151 (by decide) ?_
          refine z_aload_n dX1_bridges_152 rfl ?_
          refine z_gP 1 rfl (r := (g + 2)) flX1_15 dX1_bridges_153 sG.1 rfl p3.2.1 (by omega) ?_
          refine z_iload_n dX1_bridges_156 rfl ?_
          refine z_ialv dX1_bridges_157 sG.2.2.1 (by omega) (by omega) (l3.2.2 k (by omega)).1 ?_
          refine z_ishl dX1_bridges_158 ?_
          refine z_ior dX1_bridges_159 ?_
          rw [zor_b (by omega) (by omega), andn_or b2]
          refine z_iast dX1_bridges_160 sG.2.1 (by omega) (by omega) ?_
          have em4 : zu m3 (g + 1) ((to' k) : Nat) (((gNb fr to' L) (to' k) : Nat) : Int) = m := by
            funext x j
            by_cases e : x = g + 1
            · subst e
              by_cases e1 : j = ((to' k) : Nat)
              · rw [e1, zu_s]; exact (hG.2.2 _ (by omega)).symm
              · rw [zu_j e1, em3]
                by_cases e2 : j = ((fr k) : Nat)
                · rw [e2, zu_s]; exact (hG.2.2 _ (by omega)).symm
                · rw [zu_j e2, em2, zu_j e1, em1, zu_j e2]
            · rw [zu_a e, em3, zu_a e, em2, zu_a e, em1, zu_a e]
          rw [em4]
          refine z_iload_n dX1_bridges_161 rfl ?_
          refine z_iload_n dX1_bridges_162 rfl ?_
          try dsimp only [zs0, zsI, zsP, zsN, zsJ, zsS, zst2, Nat.reduceAdd]
          refine z_if_eq (tgt := 170) dX1_bridges_163 rfl (fun h163 => ?_) (fun h => absurd (by decide) h)
          refine z_iconst dX1_bridges_170 (by decide) ?_
          refine z_add dX1_bridges_171 (by omega) ?_
          refine z_ist 1 dX1_bridges_172 rfl (Nat.le_of_ble_eq_true rfl) ?_
          refine z_inc dX1_bridges_173 rfl (by omega) ?_
          refine z_goto (tgt := 4) dX1_bridges_176 rfl ?_
          try dsimp only [zs0, zsI, zsP, zsN, zsJ, zsS, zst2, Nat.reduceAdd]
          have e : gBr L fr to' W k = 0 := by unfold gBr; rw [zb_f (fun h => h108 (zb_f (by rw [h.2.2]; decide)))]
          rw [zsum_s, ← Int.add_assoc, Int.toNat_natCast, e, show (k : Int) + 1 = ((k + 1 : Nat) : Int) by omega] at hP
          rw [show (k : Int) + 1 = ((k + 1 : Nat) : Int) by omega]
          refine zA_wk [_, _, _, zN] (by exact ⟨Or.inr rfl, Or.inr rfl, Or.inr rfl, Or.inl rfl, trivial⟩) ?_
          exact ih (k + 1) _ (by omega) (by omega) hP
        · refine z_iconst dX1_bridges_111 (by decide) ?_
          refine z_goto (tgt := 116) dX1_bridges_112 rfl ?_
          refine z_ist 3 dX1_bridges_116 rfl (Nat.le_of_ble_eq_true rfl) ?_
          refine z_aload_n dX1_bridges_117 rfl ?_
          refine z_gP 0 rfl (r := (g + 1)) flX1_9 dX1_bridges_118 sG.1 rfl p2.1 (by omega) ?_
          refine z_aload_n dX1_bridges_121 rfl ?_
          refine z_gP 1 rfl (r := (g + 2)) flX1_15 dX1_bridges_122 sG.1 rfl p2.2.1 (by omega) ?_
          refine z_iload_n dX1_bridges_125 rfl ?_
          refine z_ialv dX1_bridges_126 sG.2.2.1 (by omega) (by omega) (l2.2.2 k (by omega)).1 ?_
          refine z_dup2 dX1_bridges_127 rfl rfl ?_
          refine z_ialv dX1_bridges_128 sG.2.1 (by omega) (by omega) (n2 (fr k) (by omega)) ?_
          rw [gDel_o (show (fr k) ≠ (to' k) by omega), gDel_s]
          refine z_iconst dX1_bridges_129 (by decide) ?_
          refine z_aload_n dX1_bridges_130 rfl ?_
          refine z_gP 2 rfl (r := (g + 3)) flX1_18 dX1_bridges_131 sG.1 rfl p2.2.2 (by omega) ?_
          refine z_iload_n dX1_bridges_134 rfl ?_
          refine z_ialv dX1_bridges_135 sG.2.2.2 (by omega) (by omega) (l2.2.2 k (by omega)).2.1 ?_
          refine z_ishl dX1_bridges_136 ?_
          refine z_ior dX1_bridges_137 ?_
          rw [zor_b (by omega) (by omega), andn_or b1]
          refine z_iast dX1_bridges_138 sG.2.1 (by omega) (by omega) ?_
          obtain ⟨m3, em3⟩ : ∃ x, x = zu m2 (g + 1) ((fr k) : Nat) (((gNb fr to' L) (fr k) : Nat) : Int) := ⟨_, rfl⟩
          rw [← em3]
          have p3 : ptG m3 g := by rw [em3]; exact ptG_a p2 (by omega)
          have l3 : gLn m3 g L fr to' := by rw [em3]; exact gLn_n l2
          have n3 : m3 (g + 1) (to' k) = (((gNb fr to' L) (to' k) ^^^ ((gNb fr to' L) (to' k) &&& 2 ^ (fr k)) : Nat) : Int) := by rw [em3, zu_j (by omega), em2, zu_s]
          refine z_aload_n dX1_bridges_139 rfl ?_
          refine z_gP 0 rfl (r := (g + 1)) flX1_9 dX1_bridges_140 sG.1 rfl p3.1 (by omega) ?_
          refine z_aload_n dX1_bridges_143 rfl ?_
          refine z_gP 2 rfl (r := (g + 3)) flX1_18 dX1_bridges_144 sG.1 rfl p3.2.2 (by omega) ?_
          refine z_iload_n dX1_bridges_147 rfl ?_
          refine z_ialv dX1_bridges_148 sG.2.2.2 (by omega) (by omega) (l3.2.2 k (by omega)).2.1 ?_
          refine z_dup2 dX1_bridges_149 rfl rfl ?_
          refine z_ialv dX1_bridges_150 sG.2.1 (by omega) (by omega) n3 ?_
          refine z_iconst dX1_bridges_151 (by decide) ?_
          refine z_aload_n dX1_bridges_152 rfl ?_
          refine z_gP 1 rfl (r := (g + 2)) flX1_15 dX1_bridges_153 sG.1 rfl p3.2.1 (by omega) ?_
          refine z_iload_n dX1_bridges_156 rfl ?_
          refine z_ialv dX1_bridges_157 sG.2.2.1 (by omega) (by omega) (l3.2.2 k (by omega)).1 ?_
          refine z_ishl dX1_bridges_158 ?_
          refine z_ior dX1_bridges_159 ?_
          rw [zor_b (by omega) (by omega), andn_or b2]
          refine z_iast dX1_bridges_160 sG.2.1 (by omega) (by omega) ?_
          have em4 : zu m3 (g + 1) ((to' k) : Nat) (((gNb fr to' L) (to' k) : Nat) : Int) = m := by
            funext x j
            by_cases e : x = g + 1
            · subst e
              by_cases e1 : j = ((to' k) : Nat)
              · rw [e1, zu_s]; exact (hG.2.2 _ (by omega)).symm
              · rw [zu_j e1, em3]
                by_cases e2 : j = ((fr k) : Nat)
                · rw [e2, zu_s]; exact (hG.2.2 _ (by omega)).symm
                · rw [zu_j e2, em2, zu_j e1, em1, zu_j e2]
            · rw [zu_a e, em3, zu_a e, em2, zu_a e, em1, zu_a e]
          rw [em4]
          refine z_iload_n dX1_bridges_161 rfl ?_
          refine z_iload_n dX1_bridges_162 rfl ?_
          try dsimp only [zs0, zsI, zsP, zsN, zsJ, zsS, zst2, Nat.reduceAdd]
          refine z_if_eq (tgt := 170) dX1_bridges_163 rfl (fun h => absurd h (by decide)) (fun h163 => ?_)
          refine z_iconst dX1_bridges_166 (by decide) ?_
          refine z_goto (tgt := 171) dX1_bridges_167 rfl ?_
          refine z_add dX1_bridges_171 (by omega) ?_
          refine z_ist 1 dX1_bridges_172 rfl (Nat.le_of_ble_eq_true rfl) ?_
          refine z_inc dX1_bridges_173 rfl (by omega) ?_
          refine z_goto (tgt := 4) dX1_bridges_176 rfl ?_
          try dsimp only [zs0, zsI, zsP, zsN, zsJ, zsS, zst2, Nat.reduceAdd]
          have e : gBr L fr to' W k = 1 := by unfold gBr; rw [zb_t ⟨by omega, by simpa using h32, by simpa using zb_0.mp (Decidable.not_not.mp h108)⟩]
          rw [zsum_s, ← Int.add_assoc, Int.toNat_natCast, e, show (k : Int) + 1 = ((k + 1 : Nat) : Int) by omega] at hP
          rw [show (k : Int) + 1 = ((k + 1 : Nat) : Int) by omega]
          refine zA_wk [_, _, _, zN] (by exact ⟨Or.inr rfl, Or.inr rfl, Or.inr rfl, Or.inl rfl, trivial⟩) ?_
          exact ih (k + 1) _ (by omega) (by omega) hP

theorem c_bridges (d : Nat) {E : zE} {m : zM} (g : Int) (g0 : 0 < g) (sG : shG E g) (pG : ptG m g) (L : Nat) (fr to' : Nat → Nat) (W : Nat) (hG : gGr m g L fr to' W) (hW : W < 256) : zR zX1_bridges (d + 2) [zP g] m E E (fun r m' => r = some (zI (zsum (fun k => gBr L fr to' W k.toNat) L 0)) ∧ m = m') := by
  refine zR_go [zP g, zN, zN, zN] (by decide +kernel) (Nat.le_of_ble_eq_true rfl) rfl rfl ?_
  refine z_iconst dX1_bridges_0 (by decide) ?_
  refine z_ist 1 dX1_bridges_1 rfl (Nat.le_of_ble_eq_true rfl) ?_
  refine z_iconst dX1_bridges_2 (by decide) ?_
  refine z_ist 2 dX1_bridges_3 rfl (Nat.le_of_ble_eq_true rfl) ?_
  try dsimp only [zs0, zsI, zsP, zsN, zsJ, zsS, zst2, Nat.reduceAdd]
  exact l_bridges1 d g g0 sG pG L fr to' W hG hW L 0 0 (by omega) (by omega) ⟨by rw [Int.zero_add]; rfl, rfl⟩
