/-- the eight rows of the diagrams -/
def shDg (E : zE) (b cap : Int) : Prop := E.1 b = (2, cap) ∧ E.1 (b + 1) = (1, cap) ∧ E.1 (b + 2) = (1, cap) ∧ E.1 (b + 3) = (1, cap) ∧ E.1 (b + 4) = (1, cap) ∧ E.1 (b + 5) = (1, cap) ∧ E.1 (b + 6) = (1, cap) ∧ E.1 (b + 7) = (1, cap)
def qDg (m : zM) (o b : Int) : Prop := m o 5 = b ∧ m o 6 = b + 1 ∧ m o 7 = b + 2 ∧ m o 8 = b + 3 ∧ m o 9 = b + 4 ∧ m o 10 = b + 5 ∧ m o 11 = b + 6 ∧ m o 12 = b + 7 ∧ True
theorem fB_o {m m' : zM} {a c k : Int} (f : zfr [(a, none)] m m') (h : c ≠ a) : m' c k = m c k := f c k (by simp; omega) (by simp)
theorem qDg_fr {m m' : zM} {o b a : Int} (q : qDg m o b) (f : zfr [(b + a, none)] m m') (h : o < b ∨ b + 8 ≤ o) (ha : 0 ≤ a ∧ a < 8 := by decide) : qDg m' o b := by
  have e : ∀ k, m' o k = m o k := fun k => fB_o f (by omega)
  unfold qDg at *
  rw [e, e, e, e, e, e, e, e]
  exact q
def vV (m : zM) (b : Int) (h : Nat) (mv : Int) : Int → Int := fun x => if x = (h : Int) then mv else m (b + 5) x
theorem vV_at {m : zM} {b : Int} {h : Nat} {mv : Int} : vV m b h mv (h : Int) = mv := if_pos rfl
theorem vV_ne {m : zM} {b : Int} {h : Nat} {mv x : Int} (z : x ≠ (h : Int)) : vV m b h mv x = m (b + 5) x := if_neg z
theorem vV_0 {m : zM} {b : Int} {h : Nat} : vV m b h (m (b + 5) (h : Int)) = m (b + 5) := by
  funext x
  unfold vV
  split
  · rename_i z; rw [z]
  · rfl
theorem vV_st {m : zM} {b : Int} {h : Nat} {mv : Int} : zu m (b + 5) (h : Int) mv (b + 5) = vV m b h mv := by
  funext x
  by_cases z : x = (h : Int)
  · rw [z, zu_s, vV_at]
  · rw [zu_j z, vV_ne z]
theorem vV_sw {m : zM} {b : Int} {h c : Nat} {mv : Int} (z : c ≠ h) : vV (zu m (b + 5) (h : Int) (vV m b h mv (c : Int))) b c mv = swp (vV m b h mv) (h : Int) (c : Int) := by
  funext x
  by_cases a : x = (h : Int)
  · rw [a, swp_l, vV_ne (by omega), zu_s]
  · by_cases b' : x = (c : Int)
    · rw [b', swp_r (by omega), vV_at, vV_at]
    · rw [swp_o a b', vV_ne b', zu_j a, vV_ne a]
theorem zcL {a b : Int} (h : ¬ zcmp a b ≥ 0) : a < b := by unfold zcmp at h; split at h; omega; split at h <;> omega
theorem zcG {a b : Int} (h : zcmp a b ≥ 0) : b ≤ a := by unfold zcmp at h; split at h; omega; split at h <;> omega
theorem zcLe {a b : Int} (h : ¬ zcmp a b > 0) : a ≤ b := by unfold zcmp at h; split at h; omega; split at h <;> omega
theorem zcGt {a b : Int} (h : zcmp a b > 0) : b < a := by unfold zcmp at h; split at h; omega; split at h <;> omega
theorem l_sink (d : Nat) {E : zE} {m : zM} {P : Option zV → zM → Prop} (o b cap : Int) (so : E.1 o = (6, 20)) (sb : shDg E b cap) (b0 : 0 < b) (qb : qDg m o b) (ob : o < b ∨ b + 8 ≤ o) (root e s : Nat) (hes : e ≤ s) (hs : (s : Int) ≤ cap) (hsb : s ≤ 10395) (Q : (Int → Int) → Prop) (hq : kept Q e) (mv : Int) (hmv : 0 ≤ mv ∧ mv < s) : ∀ (j : Nat) (st h : Nat) (m1 : zM), (st + j = 32) → (zfr [(b + 5, none)] m m1) → (h < e) → (2 ^ st ≤ h + 1) → (hpI (fun x => m b x) (vV m1 b h mv) root h e) → (∀ x : Nat, x < s → 0 ≤ (vV m1 b h mv) (x : Int) ∧ (vV m1 b h mv) (x : Int) < s) → (Q (vV m1 b h mv)) → (∀ m', zfr [(b + 5, none)] m m' → heap (fun x => m b x) (m' (b + 5)) root e → Q (m' (b + 5)) → P none m') → zA zX0_sink (d) E E P 21 [zP o, zI (root : Nat), zI (e : Nat), zI mv, zI (h : Nat), zI (2 * ((h : Nat) : Int) + 1), zI (st : Nat)] [] m1 E := by
  intro j
  induction j with
  | zero =>
    intro st h m1 hj hf hh hst hI hr hQ hP
    refine z_iload dX0_sink_21 rfl ?_
    refine z_bipush dX0_sink_23 rfl (by decide) ?_
    refine z_icmp_ge (tgt := 132) dX0_sink_25 rfl (fun h25 => ?_) (fun h => absurd (by omega) h)
    refine z_aload_n dX0_sink_132 rfl ?_
    refine z_gP 10 rfl (r := b + 5) flX0_51 dX0_sink_133 so rfl (qDg_fr qb hf ob).2.2.2.2.2.1 (by omega) ?_
    refine z_iload dX0_sink_136 rfl ?_
    refine z_iload_n dX0_sink_138 rfl ?_
    refine z_iast dX0_sink_139 sb.2.2.2.2.2.1 (by omega) (by omega) ?_
    refine z_vret dX0_sink_140 rfl rfl ?_
    have h32 : (2 : Nat) ^ 32 = 4294967296 := by decide
    rw [show st = 32 by omega, h32] at hst
    exact absurd hst (by omega)
  | succ j ih =>
    intro st h m1 hj hf hh hst hI hr hQ hP
    refine z_iload dX0_sink_21 rfl ?_
    refine z_bipush dX0_sink_23 rfl (by decide) ?_
    refine z_icmp_ge (tgt := 132) dX0_sink_25 rfl (fun h => absurd h (by omega)) (fun h25 => ?_)
    refine z_iload dX0_sink_28 rfl ?_
    refine z_iload_n dX0_sink_30 rfl ?_
    refine z_icmp_ge (tgt := 132) dX0_sink_31 rfl (fun h31 => ?_) (fun h31 => ?_)
    · refine z_aload_n dX0_sink_132 rfl ?_
      refine z_gP 10 rfl (r := b + 5) flX0_51 dX0_sink_133 so rfl (qDg_fr qb hf ob).2.2.2.2.2.1 (by omega) ?_
      refine z_iload dX0_sink_136 rfl ?_
      refine z_iload_n dX0_sink_138 rfl ?_
      refine z_iast dX0_sink_139 sb.2.2.2.2.2.1 (by omega) (by omega) ?_
      refine z_vret dX0_sink_140 rfl rfl ?_
      refine hP _ (zfr_ua hf (by simp)) ?_ ?_
      · rw [vV_st]
        exact hp_end hI (fun x x1 x2 x3 => by omega)
      · rw [vV_st]; exact hQ
    · refine z_iload dX0_sink_34 rfl ?_
      refine z_iconst dX0_sink_36 (by decide) ?_
      refine z_add dX0_sink_37 (by omega) ?_
      refine z_iload_n dX0_sink_38 rfl ?_
      refine z_icmp_ge (tgt := 75) dX0_sink_39 rfl (fun h39 => ?_) (fun h39 => ?_)
      · refine z_aload_n dX0_sink_75 rfl ?_
        refine z_gP 5 rfl (r := b) flX0_35 dX0_sink_76 so rfl (qDg_fr qb hf ob).1 (by omega) ?_
        refine z_aload_n dX0_sink_79 rfl ?_
        refine z_gP 10 rfl (r := b + 5) flX0_51 dX0_sink_80 so rfl (qDg_fr qb hf ob).2.2.2.2.2.1 (by omega) ?_
        refine z_iload dX0_sink_83 rfl ?_
        refine z_ialv (v := (vV m1 b h mv) ((2 * h + 1 : Nat) : Int)) dX0_sink_85 sb.2.2.2.2.2.1 (by omega) (by omega) (by rw [show 2 * (h : Int) + 1 = ((2 * h + 1 : Nat) : Int) by omega]; exact (vV_ne (by omega)).symm) ?_
        refine z_lalv (v := m b ((vV m1 b h mv) ((2 * h + 1 : Nat) : Int))) dX0_sink_86 sb.1 (hr (2 * h + 1) (by omega)).1 (by have := (hr (2 * h + 1) (by omega)).2; omega) (fB_o hf (by omega)) ?_
        refine z_aload_n dX0_sink_87 rfl ?_
        refine z_gP 5 rfl (r := b) flX0_35 dX0_sink_88 so rfl (qDg_fr qb hf ob).1 (by omega) ?_
        refine z_iload_n dX0_sink_91 rfl ?_
        refine z_lalv (v := m b (mv)) dX0_sink_92 sb.1 hmv.1 (by omega) (fB_o hf (by omega)) ?_
        refine z_lcmp dX0_sink_93 ?_
        refine z_if_gt (tgt := 100) dX0_sink_94 rfl (fun h94 => ?_) (fun h94 => ?_)
        · refine z_aload_n dX0_sink_100 rfl ?_
          refine z_gP 10 rfl (r := b + 5) flX0_51 dX0_sink_101 so rfl (qDg_fr qb hf ob).2.2.2.2.2.1 (by omega) ?_
          refine z_iload dX0_sink_104 rfl ?_
          refine z_aload_n dX0_sink_106 rfl ?_
          refine z_gP 10 rfl (r := b + 5) flX0_51 dX0_sink_107 so rfl (qDg_fr qb hf ob).2.2.2.2.2.1 (by omega) ?_
          refine z_iload dX0_sink_110 rfl ?_
          refine z_ialv (v := (vV m1 b h mv) ((2 * h + 1 : Nat) : Int)) dX0_sink_112 sb.2.2.2.2.2.1 (by omega) (by omega) (by rw [show 2 * (h : Int) + 1 = ((2 * h + 1 : Nat) : Int) by omega]; exact (vV_ne (by omega)).symm) ?_
          refine z_iast dX0_sink_113 sb.2.2.2.2.2.1 (by omega) (by omega) ?_
          refine z_iload dX0_sink_114 rfl ?_
          refine z_istore dX0_sink_116 (Nat.le_of_ble_eq_true rfl) ?_
          refine z_iconst dX0_sink_118 (by decide) ?_
          refine z_iload dX0_sink_119 rfl ?_
          refine z_mul dX0_sink_121 (by omega) ?_
          refine z_iconst dX0_sink_122 (by decide) ?_
          refine z_add dX0_sink_123 (by omega) ?_
          refine z_istore dX0_sink_124 (Nat.le_of_ble_eq_true rfl) ?_
          refine z_inc dX0_sink_126 rfl (by omega) ?_
          refine z_goto (tgt := 21) dX0_sink_129 rfl ?_
          try dsimp only [zs0, zsI, zsP, zsN, zsJ, zsS, zst2, Nat.reduceAdd]
          have hbest : ∀ x : Nat, x < e → 0 < x → (x - 1) / 2 = h → m b ((vV m1 b h mv) (x : Int)) ≤ m b ((vV m1 b h mv) ((2 * h + 1 : Nat) : Int)) := fun x x1 x2 x3 => by
            rw [show x = 2 * h + 1 by omega]; exact Int.le_refl _
          have hgt := zcGt h94
          rw [show (2 * (h : Int) + 1) = ((2 * h + 1 : Nat) : Int) by omega, show 2 * ((2 * h + 1 : Nat) : Int) + 1 = 2 * (((2 * h + 1) : Nat) : Int) + 1 from rfl, show (st : Int) + 1 = ((st + 1 : Nat) : Int) by omega]
          have h2 : (vV m1 b h mv) (h : Int) = mv := vV_at
          have ev : vV (zu m1 (b + 5) (h : Int) ((vV m1 b h mv) ((2 * h + 1 : Nat) : Int))) b (2 * h + 1) mv = swp (vV m1 b h mv) (h : Int) ((2 * h + 1 : Nat) : Int) := vV_sw (by omega)
          refine ih (st + 1) (2 * h + 1) _ (by omega) (zfr_ua hf (by simp)) (by omega) (by rw [Nat.pow_succ]; omega) ?_ ?_ ?_ hP
          · rw [ev]
            exact hp_step hI (by omega) (by omega) (by omega) hbest (by show m b ((vV m1 b h mv) (h : Int)) < m b ((vV m1 b h mv) ((2 * h + 1 : Nat) : Int)); rw [h2]; exact hgt)
          · rw [ev]
            intro x hx
            by_cases z1 : (x : Int) = (h : Int)
            · rw [z1, swp_l]; exact hr (2 * h + 1) (by omega)
            · by_cases z2 : (x : Int) = ((2 * h + 1 : Nat) : Int)
              · rw [z2, swp_r (by omega), h2]; exact hmv
              · rw [swp_o z1 z2]; exact hr x hx
          · rw [ev]
            exact hq _ h (2 * h + 1) (by omega) (by omega) hQ
        · refine z_goto (tgt := 132) dX0_sink_97 rfl ?_
          refine z_aload_n dX0_sink_132 rfl ?_
          refine z_gP 10 rfl (r := b + 5) flX0_51 dX0_sink_133 so rfl (qDg_fr qb hf ob).2.2.2.2.2.1 (by omega) ?_
          refine z_iload dX0_sink_136 rfl ?_
          refine z_iload_n dX0_sink_138 rfl ?_
          refine z_iast dX0_sink_139 sb.2.2.2.2.2.1 (by omega) (by omega) ?_
          refine z_vret dX0_sink_140 rfl rfl ?_
          have hbest : ∀ x : Nat, x < e → 0 < x → (x - 1) / 2 = h → m b ((vV m1 b h mv) (x : Int)) ≤ m b ((vV m1 b h mv) ((2 * h + 1 : Nat) : Int)) := fun x x1 x2 x3 => by
            rw [show x = 2 * h + 1 by omega]; exact Int.le_refl _
          have hle := zcLe h94
          refine hP _ (zfr_ua hf (by simp)) ?_ ?_
          · rw [vV_st]
            exact hp_end hI (fun x x1 x2 x3 => by
              have h1 := hbest x x1 x2 x3
              have h2 : (vV m1 b h mv) (h : Int) = mv := vV_at
              show m b ((vV m1 b h mv) (x : Int)) ≤ m b ((vV m1 b h mv) (h : Int))
              rw [h2]; omega)
          · rw [vV_st]; exact hQ
      · refine z_aload_n dX0_sink_42 rfl ?_
        refine z_gP 5 rfl (r := b) flX0_35 dX0_sink_43 so rfl (qDg_fr qb hf ob).1 (by omega) ?_
        refine z_aload_n dX0_sink_46 rfl ?_
        refine z_gP 10 rfl (r := b + 5) flX0_51 dX0_sink_47 so rfl (qDg_fr qb hf ob).2.2.2.2.2.1 (by omega) ?_
        refine z_iload dX0_sink_50 rfl ?_
        refine z_ialv (v := (vV m1 b h mv) ((2 * h + 1 : Nat) : Int)) dX0_sink_52 sb.2.2.2.2.2.1 (by omega) (by omega) (by rw [show 2 * (h : Int) + 1 = ((2 * h + 1 : Nat) : Int) by omega]; exact (vV_ne (by omega)).symm) ?_
        refine z_lalv (v := m b ((vV m1 b h mv) ((2 * h + 1 : Nat) : Int))) dX0_sink_53 sb.1 (hr (2 * h + 1) (by omega)).1 (by have := (hr (2 * h + 1) (by omega)).2; omega) (fB_o hf (by omega)) ?_
        refine z_aload_n dX0_sink_54 rfl ?_
        refine z_gP 5 rfl (r := b) flX0_35 dX0_sink_55 so rfl (qDg_fr qb hf ob).1 (by omega) ?_
        refine z_aload_n dX0_sink_58 rfl ?_
        refine z_gP 10 rfl (r := b + 5) flX0_51 dX0_sink_59 so rfl (qDg_fr qb hf ob).2.2.2.2.2.1 (by omega) ?_
        refine z_iload dX0_sink_62 rfl ?_
        refine z_iconst dX0_sink_64 (by decide) ?_
        refine z_add dX0_sink_65 (by omega) ?_
        rw [show 2 * (h : Int) + 1 + 1 = ((2 * h + 2 : Nat) : Int) by omega]
        refine z_ialv (v := (vV m1 b h mv) ((2 * h + 2 : Nat) : Int)) dX0_sink_66 sb.2.2.2.2.2.1 (by omega) (by omega) (vV_ne (by omega)).symm ?_
        refine z_lalv (v := m b ((vV m1 b h mv) ((2 * h + 2 : Nat) : Int))) dX0_sink_67 sb.1 (hr (2 * h + 2) (by omega)).1 (by have := (hr (2 * h + 2) (by omega)).2; omega) (fB_o hf (by omega)) ?_
        refine z_lcmp dX0_sink_68 ?_
        refine z_if_ge (tgt := 75) dX0_sink_69 rfl (fun h69 => ?_) (fun h69 => ?_)
        · refine z_aload_n dX0_sink_75 rfl ?_
          refine z_gP 5 rfl (r := b) flX0_35 dX0_sink_76 so rfl (qDg_fr qb hf ob).1 (by omega) ?_
          refine z_aload_n dX0_sink_79 rfl ?_
          refine z_gP 10 rfl (r := b + 5) flX0_51 dX0_sink_80 so rfl (qDg_fr qb hf ob).2.2.2.2.2.1 (by omega) ?_
          refine z_iload dX0_sink_83 rfl ?_
          refine z_ialv (v := (vV m1 b h mv) ((2 * h + 1 : Nat) : Int)) dX0_sink_85 sb.2.2.2.2.2.1 (by omega) (by omega) (by rw [show 2 * (h : Int) + 1 = ((2 * h + 1 : Nat) : Int) by omega]; exact (vV_ne (by omega)).symm) ?_
          refine z_lalv (v := m b ((vV m1 b h mv) ((2 * h + 1 : Nat) : Int))) dX0_sink_86 sb.1 (hr (2 * h + 1) (by omega)).1 (by have := (hr (2 * h + 1) (by omega)).2; omega) (fB_o hf (by omega)) ?_
          refine z_aload_n dX0_sink_87 rfl ?_
          refine z_gP 5 rfl (r := b) flX0_35 dX0_sink_88 so rfl (qDg_fr qb hf ob).1 (by omega) ?_
          refine z_iload_n dX0_sink_91 rfl ?_
          refine z_lalv (v := m b (mv)) dX0_sink_92 sb.1 hmv.1 (by omega) (fB_o hf (by omega)) ?_
          refine z_lcmp dX0_sink_93 ?_
          refine z_if_gt (tgt := 100) dX0_sink_94 rfl (fun h94 => ?_) (fun h94 => ?_)
          · refine z_aload_n dX0_sink_100 rfl ?_
            refine z_gP 10 rfl (r := b + 5) flX0_51 dX0_sink_101 so rfl (qDg_fr qb hf ob).2.2.2.2.2.1 (by omega) ?_
            refine z_iload dX0_sink_104 rfl ?_
            refine z_aload_n dX0_sink_106 rfl ?_
            refine z_gP 10 rfl (r := b + 5) flX0_51 dX0_sink_107 so rfl (qDg_fr qb hf ob).2.2.2.2.2.1 (by omega) ?_
            refine z_iload dX0_sink_110 rfl ?_
            refine z_ialv (v := (vV m1 b h mv) ((2 * h + 1 : Nat) : Int)) dX0_sink_112 sb.2.2.2.2.2.1 (by omega) (by omega) (by rw [show 2 * (h : Int) + 1 = ((2 * h + 1 : Nat) : Int) by omega]; exact (vV_ne (by omega)).symm) ?_
            refine z_iast dX0_sink_113 sb.2.2.2.2.2.1 (by omega) (by omega) ?_
            refine z_iload dX0_sink_114 rfl ?_
            refine z_istore dX0_sink_116 (Nat.le_of_ble_eq_true rfl) ?_
            refine z_iconst dX0_sink_118 (by decide) ?_
            refine z_iload dX0_sink_119 rfl ?_
            refine z_mul dX0_sink_121 (by omega) ?_
            refine z_iconst dX0_sink_122 (by decide) ?_
            refine z_add dX0_sink_123 (by omega) ?_
            refine z_istore dX0_sink_124 (Nat.le_of_ble_eq_true rfl) ?_
            refine z_inc dX0_sink_126 rfl (by omega) ?_
            refine z_goto (tgt := 21) dX0_sink_129 rfl ?_
            try dsimp only [zs0, zsI, zsP, zsN, zsJ, zsS, zst2, Nat.reduceAdd]
            have hbest : ∀ x : Nat, x < e → 0 < x → (x - 1) / 2 = h → m b ((vV m1 b h mv) (x : Int)) ≤ m b ((vV m1 b h mv) ((2 * h + 1 : Nat) : Int)) := fun x x1 x2 x3 => by
              have hge := zcG h69
              rcases (show x = 2 * h + 1 ∨ x = 2 * h + 2 by omega) with z | z
              · rw [z]; exact Int.le_refl _
              · rw [z]; omega
            have hgt := zcGt h94
            rw [show (2 * (h : Int) + 1) = ((2 * h + 1 : Nat) : Int) by omega, show 2 * ((2 * h + 1 : Nat) : Int) + 1 = 2 * (((2 * h + 1) : Nat) : Int) + 1 from rfl, show (st : Int) + 1 = ((st + 1 : Nat) : Int) by omega]
            have h2 : (vV m1 b h mv) (h : Int) = mv := vV_at
            have ev : vV (zu m1 (b + 5) (h : Int) ((vV m1 b h mv) ((2 * h + 1 : Nat) : Int))) b (2 * h + 1) mv = swp (vV m1 b h mv) (h : Int) ((2 * h + 1 : Nat) : Int) := vV_sw (by omega)
            refine ih (st + 1) (2 * h + 1) _ (by omega) (zfr_ua hf (by simp)) (by omega) (by rw [Nat.pow_succ]; omega) ?_ ?_ ?_ hP
            · rw [ev]
              exact hp_step hI (by omega) (by omega) (by omega) hbest (by show m b ((vV m1 b h mv) (h : Int)) < m b ((vV m1 b h mv) ((2 * h + 1 : Nat) : Int)); rw [h2]; exact hgt)
            · rw [ev]
              intro x hx
              by_cases z1 : (x : Int) = (h : Int)
              · rw [z1, swp_l]; exact hr (2 * h + 1) (by omega)
              · by_cases z2 : (x : Int) = ((2 * h + 1 : Nat) : Int)
                · rw [z2, swp_r (by omega), h2]; exact hmv
                · rw [swp_o z1 z2]; exact hr x hx
            · rw [ev]
              exact hq _ h (2 * h + 1) (by omega) (by omega) hQ
          · refine z_goto (tgt := 132) dX0_sink_97 rfl ?_
            refine z_aload_n dX0_sink_132 rfl ?_
            refine z_gP 10 rfl (r := b + 5) flX0_51 dX0_sink_133 so rfl (qDg_fr qb hf ob).2.2.2.2.2.1 (by omega) ?_
            refine z_iload dX0_sink_136 rfl ?_
            refine z_iload_n dX0_sink_138 rfl ?_
            refine z_iast dX0_sink_139 sb.2.2.2.2.2.1 (by omega) (by omega) ?_
            refine z_vret dX0_sink_140 rfl rfl ?_
            have hbest : ∀ x : Nat, x < e → 0 < x → (x - 1) / 2 = h → m b ((vV m1 b h mv) (x : Int)) ≤ m b ((vV m1 b h mv) ((2 * h + 1 : Nat) : Int)) := fun x x1 x2 x3 => by
              have hge := zcG h69
              rcases (show x = 2 * h + 1 ∨ x = 2 * h + 2 by omega) with z | z
              · rw [z]; exact Int.le_refl _
              · rw [z]; omega
            have hle := zcLe h94
            refine hP _ (zfr_ua hf (by simp)) ?_ ?_
            · rw [vV_st]
              exact hp_end hI (fun x x1 x2 x3 => by
                have h1 := hbest x x1 x2 x3
                have h2 : (vV m1 b h mv) (h : Int) = mv := vV_at
                show m b ((vV m1 b h mv) (x : Int)) ≤ m b ((vV m1 b h mv) (h : Int))
                rw [h2]; omega)
            · rw [vV_st]; exact hQ
        · refine z_inc dX0_sink_72 rfl (by omega) ?_
          refine z_aload_n dX0_sink_75 rfl ?_
          refine z_gP 5 rfl (r := b) flX0_35 dX0_sink_76 so rfl (qDg_fr qb hf ob).1 (by omega) ?_
          refine z_aload_n dX0_sink_79 rfl ?_
          refine z_gP 10 rfl (r := b + 5) flX0_51 dX0_sink_80 so rfl (qDg_fr qb hf ob).2.2.2.2.2.1 (by omega) ?_
          refine z_iload dX0_sink_83 rfl ?_
          refine z_ialv (v := (vV m1 b h mv) ((2 * h + 2 : Nat) : Int)) dX0_sink_85 sb.2.2.2.2.2.1 (by omega) (by omega) (by rw [show 2 * (h : Int) + 1 + 1 = ((2 * h + 2 : Nat) : Int) by omega]; exact (vV_ne (by omega)).symm) ?_
          refine z_lalv (v := m b ((vV m1 b h mv) ((2 * h + 2 : Nat) : Int))) dX0_sink_86 sb.1 (hr (2 * h + 2) (by omega)).1 (by have := (hr (2 * h + 2) (by omega)).2; omega) (fB_o hf (by omega)) ?_
          refine z_aload_n dX0_sink_87 rfl ?_
          refine z_gP 5 rfl (r := b) flX0_35 dX0_sink_88 so rfl (qDg_fr qb hf ob).1 (by omega) ?_
          refine z_iload_n dX0_sink_91 rfl ?_
          refine z_lalv (v := m b (mv)) dX0_sink_92 sb.1 hmv.1 (by omega) (fB_o hf (by omega)) ?_
          refine z_lcmp dX0_sink_93 ?_
          try dsimp only [zs0, zsI, zsP, zsN, zsJ, zsS, zst2, Nat.reduceAdd]
          refine z_if_gt (tgt := 100) dX0_sink_94 rfl (fun h94 => ?_) (fun h94 => ?_)
          · refine z_aload_n dX0_sink_100 rfl ?_
            refine z_gP 10 rfl (r := b + 5) flX0_51 dX0_sink_101 so rfl (qDg_fr qb hf ob).2.2.2.2.2.1 (by omega) ?_
            refine z_iload dX0_sink_104 rfl ?_
            refine z_aload_n dX0_sink_106 rfl ?_
            refine z_gP 10 rfl (r := b + 5) flX0_51 dX0_sink_107 so rfl (qDg_fr qb hf ob).2.2.2.2.2.1 (by omega) ?_
            refine z_iload dX0_sink_110 rfl ?_
            refine z_ialv (v := (vV m1 b h mv) ((2 * h + 2 : Nat) : Int)) dX0_sink_112 sb.2.2.2.2.2.1 (by omega) (by omega) (by rw [show 2 * (h : Int) + 1 + 1 = ((2 * h + 2 : Nat) : Int) by omega]; exact (vV_ne (by omega)).symm) ?_
            refine z_iast dX0_sink_113 sb.2.2.2.2.2.1 (by omega) (by omega) ?_
            refine z_iload dX0_sink_114 rfl ?_
            refine z_istore dX0_sink_116 (Nat.le_of_ble_eq_true rfl) ?_
            refine z_iconst dX0_sink_118 (by decide) ?_
            refine z_iload dX0_sink_119 rfl ?_
            refine z_mul dX0_sink_121 (by omega) ?_
            refine z_iconst dX0_sink_122 (by decide) ?_
            refine z_add dX0_sink_123 (by omega) ?_
            refine z_istore dX0_sink_124 (Nat.le_of_ble_eq_true rfl) ?_
            refine z_inc dX0_sink_126 rfl (by omega) ?_
            refine z_goto (tgt := 21) dX0_sink_129 rfl ?_
            try dsimp only [zs0, zsI, zsP, zsN, zsJ, zsS, zst2, Nat.reduceAdd]
            have hbest : ∀ x : Nat, x < e → 0 < x → (x - 1) / 2 = h → m b ((vV m1 b h mv) (x : Int)) ≤ m b ((vV m1 b h mv) ((2 * h + 2 : Nat) : Int)) := fun x x1 x2 x3 => by
              have hlt := zcL h69
              rcases (show x = 2 * h + 1 ∨ x = 2 * h + 2 by omega) with z | z
              · rw [z]; omega
              · rw [z]; exact Int.le_refl _
            have hgt := zcGt h94
            rw [show (2 * (h : Int) + 1 + 1) = ((2 * h + 2 : Nat) : Int) by omega, show 2 * ((2 * h + 2 : Nat) : Int) + 1 = 2 * (((2 * h + 2) : Nat) : Int) + 1 from rfl, show (st : Int) + 1 = ((st + 1 : Nat) : Int) by omega]
            have h2 : (vV m1 b h mv) (h : Int) = mv := vV_at
            have ev : vV (zu m1 (b + 5) (h : Int) ((vV m1 b h mv) ((2 * h + 2 : Nat) : Int))) b (2 * h + 2) mv = swp (vV m1 b h mv) (h : Int) ((2 * h + 2 : Nat) : Int) := vV_sw (by omega)
            refine ih (st + 1) (2 * h + 2) _ (by omega) (zfr_ua hf (by simp)) (by omega) (by rw [Nat.pow_succ]; omega) ?_ ?_ ?_ hP
            · rw [ev]
              exact hp_step hI (by omega) (by omega) (by omega) hbest (by show m b ((vV m1 b h mv) (h : Int)) < m b ((vV m1 b h mv) ((2 * h + 2 : Nat) : Int)); rw [h2]; exact hgt)
            · rw [ev]
              intro x hx
              by_cases z1 : (x : Int) = (h : Int)
              · rw [z1, swp_l]; exact hr (2 * h + 2) (by omega)
              · by_cases z2 : (x : Int) = ((2 * h + 2 : Nat) : Int)
                · rw [z2, swp_r (by omega), h2]; exact hmv
                · rw [swp_o z1 z2]; exact hr x hx
            · rw [ev]
              exact hq _ h (2 * h + 2) (by omega) (by omega) hQ
          · refine z_goto (tgt := 132) dX0_sink_97 rfl ?_
            refine z_aload_n dX0_sink_132 rfl ?_
            refine z_gP 10 rfl (r := b + 5) flX0_51 dX0_sink_133 so rfl (qDg_fr qb hf ob).2.2.2.2.2.1 (by omega) ?_
            refine z_iload dX0_sink_136 rfl ?_
            refine z_iload_n dX0_sink_138 rfl ?_
            refine z_iast dX0_sink_139 sb.2.2.2.2.2.1 (by omega) (by omega) ?_
            refine z_vret dX0_sink_140 rfl rfl ?_
            have hbest : ∀ x : Nat, x < e → 0 < x → (x - 1) / 2 = h → m b ((vV m1 b h mv) (x : Int)) ≤ m b ((vV m1 b h mv) ((2 * h + 2 : Nat) : Int)) := fun x x1 x2 x3 => by
              have hlt := zcL h69
              rcases (show x = 2 * h + 1 ∨ x = 2 * h + 2 by omega) with z | z
              · rw [z]; omega
              · rw [z]; exact Int.le_refl _
            have hle := zcLe h94
            refine hP _ (zfr_ua hf (by simp)) ?_ ?_
            · rw [vV_st]
              exact hp_end hI (fun x x1 x2 x3 => by
                have h1 := hbest x x1 x2 x3
                have h2 : (vV m1 b h mv) (h : Int) = mv := vV_at
                show m b ((vV m1 b h mv) (x : Int)) ≤ m b ((vV m1 b h mv) (h : Int))
                rw [h2]; omega)
            · rw [vV_st]; exact hQ

theorem c_sink (d : Nat) {E : zE} {m : zM} (o b cap : Int) (so : E.1 o = (6, 20)) (sb : shDg E b cap) (b0 : 0 < b) (qb : qDg m o b) (ob : o < b ∨ b + 8 ≤ o) (root e s : Nat) (hre : root < e) (hes : e ≤ s) (hs : (s : Int) ≤ cap) (hsb : s ≤ 10395) (Q : (Int → Int) → Prop) (hq : kept Q e) (hpr : ∀ x : Nat, x < s → 0 ≤ m (b + 5) (x : Int) ∧ m (b + 5) (x : Int) < s) (hh : heap (fun x => m b x) (m (b + 5)) (root + 1) e) (hQ : Q (m (b + 5))) : zR zX0_sink (d) [zP o, zI (root : Nat), zI (e : Nat)] m E E (fun r m' => r = none ∧ zfr [(b + 5, none)] m m' ∧ heap (fun x => m b x) (m' (b + 5)) root e ∧ Q (m' (b + 5))) := by
  refine zR_go [zP o, zI (root : Nat), zI (e : Nat), zN, zN, zN, zN] (by decide +kernel) (Nat.le_of_ble_eq_true rfl) rfl rfl ?_
  refine z_aload_n dX0_sink_0 rfl ?_
  refine z_gP 10 rfl (r := b + 5) flX0_51 dX0_sink_1 so rfl qb.2.2.2.2.2.1 (by omega) ?_
  refine z_iload_n dX0_sink_4 rfl ?_
  refine z_ialv (v := m (b + 5) (root : Int)) dX0_sink_5 sb.2.2.2.2.2.1 (by omega) (by omega) rfl ?_
  refine z_ist 3 dX0_sink_6 rfl (Nat.le_of_ble_eq_true rfl) ?_
  refine z_iload_n dX0_sink_7 rfl ?_
  refine z_istore dX0_sink_8 (Nat.le_of_ble_eq_true rfl) ?_
  refine z_iconst dX0_sink_10 (by decide) ?_
  refine z_iload dX0_sink_11 rfl ?_
  refine z_mul dX0_sink_13 (by omega) ?_
  refine z_iconst dX0_sink_14 (by decide) ?_
  refine z_add dX0_sink_15 (by omega) ?_
  refine z_istore dX0_sink_16 (Nat.le_of_ble_eq_true rfl) ?_
  refine z_iconst dX0_sink_18 (by decide) ?_
  refine z_istore dX0_sink_19 (Nat.le_of_ble_eq_true rfl) ?_
  try dsimp only [zs0, zsI, zsP, zsN, zsJ, zsS, zst2, Nat.reduceAdd]
  have ev : vV m b root (m (b + 5) (root : Int)) = m (b + 5) := vV_0
  refine l_sink d o b cap so sb b0 qb ob root e s hes hs hsb Q hq (m (b + 5) (root : Int)) (hpr root (by omega)) 32 0 root m (by omega) zfr_rf hre (by rw [Nat.pow_zero]; omega) ?_ ?_ ?_ (fun m2 f2 h2 q2 => ⟨rfl, f2, h2, q2⟩)
  · rw [ev]; exact hp_start hh
  · rw [ev]; exact hpr
  · rw [ev]; exact hQ
