/-- letters numbered so far -/
def rnI (m0 m1 : zM) (t : Int) (c w q : Int → Int) (x : Nat) : Prop := zfr (fR t) m0 m1 ∧ ptT m1 t ∧ cTh m1 t c ∧ m1 t 14 = (x : Int) ∧ (∀ i : Int, 0 ≤ i → i < x → m1 (t + 7) i = w i ∧ m1 (t + 8) i = q i) ∧ m1 t 15 = ((zmask (fun i => cOd c w (i : Int)) x : Nat) : Int) ∧ ∀ i, 0 ≤ i → i < 800 → m1 (t + 11) i = 1
theorem rnI_even {m0 m1 : zM} {t : Int} {c w q : Int → Int} {x : Nat} (h : rnI m0 m1 t c w q x) (hw : wfD c) (ho : cOd c w (x : Nat) = false) : rnI m0 (zu (zu (zu m1 (t + 7) (x : Nat) (w (x : Nat))) (t + 8) (x : Nat) (q (x : Nat))) t 14 ((x : Int) + 1)) t c w q (x + 1) := by
  obtain ⟨h1, h2, h3, h4, h5, h6, h7⟩ := h
  have f : zfr (fR t) m1 (zu (zu (zu m1 (t + 7) (x : Nat) (w (x : Nat))) (t + 8) (x : Nat) (q (x : Nat))) t 14 ((x : Int) + 1)) := zfr_uj (zfr_ua (zfr_ua zfr_rf (by simp [fR])) (by simp [fR])) (by simp [fR])
  refine ⟨zfr_tr h1 f, ptT_R h2 f, cTh_R h2 hw h3 f, by rw [zu_s]; omega, fun i q0 q1 => ?_, ?_, fun i q0 q1 => ?_⟩
  · rw [zu_a (by omega), zu_a (by omega), zu_a (a := t) (by omega)]
    by_cases e : i = (x : Nat)
    · rw [e, zu_s, zu_s]; exact ⟨rfl, rfl⟩
    · rw [zu_j e, zu_j e, zu_a (by omega)]; exact h5 i q0 (by omega)
  · rw [zu_j (by decide), zu_a (by omega), zu_a (by omega), h6, zmask_n ho]
  · rw [zu_a (by omega), zu_a (by omega), zu_a (by omega)]; exact h7 i q0 q1
theorem rnI_odd {m0 m1 : zM} {t : Int} {c w q : Int → Int} {x : Nat} (h : rnI m0 m1 t c w q x) (hw : wfD c) (ho : cOd c w (x : Nat) = true) : rnI m0 (zu (zu (zu (zu m1 (t + 7) (x : Nat) (w (x : Nat))) (t + 8) (x : Nat) (q (x : Nat))) t 15 ((zmask (fun i => cOd c w (i : Int)) x ||| 2 ^ x : Nat) : Int)) t 14 ((x : Int) + 1)) t c w q (x + 1) := by
  obtain ⟨h1, h2, h3, h4, h5, h6, h7⟩ := h
  have f : zfr (fR t) m1 (zu (zu (zu (zu m1 (t + 7) (x : Nat) (w (x : Nat))) (t + 8) (x : Nat) (q (x : Nat))) t 15 ((zmask (fun i => cOd c w (i : Int)) x ||| 2 ^ x : Nat) : Int)) t 14 ((x : Int) + 1)) := zfr_uj (zfr_uj (zfr_ua (zfr_ua zfr_rf (by simp [fR])) (by simp [fR])) (by simp [fR])) (by simp [fR])
  refine ⟨zfr_tr h1 f, ptT_R h2 f, cTh_R h2 hw h3 f, by rw [zu_s]; omega, fun i q0 q1 => ?_, ?_, fun i q0 q1 => ?_⟩
  · rw [zu_a (by omega), zu_a (by omega), zu_a (by omega), zu_a (a := t) (by omega), zu_a (a := t) (by omega)]
    by_cases e : i = (x : Nat)
    · rw [e, zu_s, zu_s]; exact ⟨rfl, rfl⟩
    · rw [zu_j e, zu_j e, zu_a (by omega)]; exact h5 i q0 (by omega)
  · rw [zu_j (by decide), zu_s, zmask_s ho]
  · rw [zu_a (by omega), zu_a (by omega), zu_a (by omega), zu_a (by omega)]; exact h7 i q0 q1
def rnRow (m1 : zM) (t : Int) (c w q : Int → Int) (n : Int) (a : Int) : Prop := m1 (t + 9) a = ((zmask (fun j => cMay c w q a (j : Int)) n.toNat : Nat) : Int) ∧ ∀ b : Int, 0 ≤ b → b < n → cMay c w q a b = true → m1 (t + 10) (12 * a + b) = cCode c w q a b
/-- rows linked so far, and a row as far as b -/
def rnM (m0 m1 : zM) (t : Int) (c w q : Int → Int) (n : Int) (a : Nat) : Prop := rnI m0 m1 t c w q n.toNat ∧ ∀ x : Int, 0 ≤ x → x < a → rnRow m1 t c w q n x
def rnL (m0 m1 : zM) (t : Int) (c w q : Int → Int) (n : Int) (a b : Nat) : Prop := rnI m0 m1 t c w q n.toNat ∧ (∀ x : Int, 0 ≤ x → x < a → rnRow m1 t c w q n x) ∧ m1 (t + 9) (a : Nat) = ((zmask (fun j => cMay c w q (a : Nat) (j : Int)) b : Nat) : Int) ∧ ∀ y : Int, 0 ≤ y → y < b → cMay c w q (a : Nat) y = true → m1 (t + 10) (12 * (a : Nat) + y) = cCode c w q (a : Nat) y
theorem rnI_R {m0 m1 m2 : zM} {t : Int} {c w q : Int → Int} {x : Nat} (h : rnI m0 m1 t c w q x) (hw : wfD c) (f : zfr [(t + 9, none), (t + 10, none)] m1 m2) : rnI m0 m2 t c w q x := by
  have f2 : zfr (fR t) m1 m2 := zfr_sub f (by simp [fR])
  have g : ∀ a j, a ≠ t + 9 → a ≠ t + 10 → m2 a j = m1 a j := fun a j q1 q2 => f a j (by simp; exact ⟨q1, q2⟩) (by simp)
  obtain ⟨h1, h2, h3, h4, h5, h6, h7⟩ := h
  refine ⟨zfr_tr h1 f2, ptT_R h2 f2, cTh_R h2 hw h3 f2, by rw [g _ _ (by omega) (by omega)]; exact h4, fun i q0 q1 => ?_, by rw [g _ _ (by omega) (by omega)]; exact h6, fun i q0 q1 => by rw [g _ _ (by omega) (by omega)]; exact h7 i q0 q1⟩
  rw [g _ _ (by omega) (by omega), g _ _ (by omega) (by omega)]
  exact h5 i q0 q1
theorem rnM_0 {m0 m1 : zM} {t : Int} {c w q : Int → Int} {n : Int} {y : Nat} (hy : y = n.toNat) (h : rnI m0 m1 t c w q y) : rnM m0 m1 t c w q n 0 := ⟨hy ▸ h, fun x q0 q1 => by omega⟩
theorem rnL_new {m0 m1 : zM} {t : Int} {c w q : Int → Int} {n : Int} {a : Nat} (h : rnM m0 m1 t c w q n a) (hw : wfD c) : rnL m0 (zu m1 (t + 9) (a : Nat) 0) t c w q n a 0 := by
  refine ⟨rnI_R h.1 hw (zfr_ua zfr_rf (by simp)), fun x q0 q1 => ?_, by rw [zu_s]; rfl, fun y q0 q1 => by omega⟩
  have := h.2 x q0 q1
  unfold rnRow at this ⊢
  rw [zu_j (by omega)]
  exact ⟨this.1, fun b b0 b1 hm => by rw [zu_a (by omega)]; exact this.2 b b0 b1 hm⟩
theorem rnL_step {m0 m1 m2 : zM} {t : Int} {c w q : Int → Int} {n : Int} {a b : Nat} (h : rnL m0 m1 t c w q n a b) (hw : wfD c) (hl : wfL c w q n) (ha : (a : Int) < n) (hb : (b : Int) < n) (e : m2 = (if cMay c w q (a : Nat) (b : Int) = true then zu (zu m1 (t + 9) (a : Nat) ((zmask (fun j => cMay c w q (a : Nat) (j : Int)) b ||| 2 ^ b : Nat) : Int)) (t + 10) (12 * (a : Nat) + b) (cCode c w q (a : Nat) (b : Int)) else m1)) : rnL m0 m2 t c w q n a (b + 1) := by
  have hn := hl.1
  by_cases hm : cMay c w q (a : Nat) (b : Int) = true
  · rw [if_pos hm] at e
    subst e
    refine ⟨rnI_R h.1 hw (zfr_ua (zfr_ua zfr_rf (by simp)) (by simp)), fun x q0 q1 => ?_, ?_, fun y q0 q1 hy => ?_⟩
    · have := h.2.1 x q0 q1
      unfold rnRow at this ⊢
      rw [zu_a (by omega), zu_j (by omega)]
      exact ⟨this.1, fun b' b0 b1 hm => by rw [zu_j (by omega), zu_a (by omega)]; exact this.2 b' b0 b1 hm⟩
    · rw [zu_a (by omega), zu_s, zmask_s (f := fun j : Nat => cMay c w q (a : Nat) (j : Int)) hm]
    · by_cases ey : y = b
      · rw [ey, zu_s]
      · rw [zu_j (by omega), zu_a (by omega)]; exact h.2.2.2 y q0 (by omega) hy
  · rw [if_neg hm] at e
    subst e
    refine ⟨h.1, h.2.1, by rw [zmask_n (f := fun j : Nat => cMay c w q (a : Nat) (j : Int)) (by simpa using hm)]; exact h.2.2.1, fun y q0 q1 hy => ?_⟩
    by_cases ey : y = b
    · rw [ey] at hy; exact absurd hy hm
    · exact h.2.2.2 y q0 (by omega) hy
theorem rnM_next {m0 m1 : zM} {t : Int} {c w q : Int → Int} {n : Int} {a : Nat} (h : rnL m0 m1 t c w q n a n.toNat) (ha : (a : Int) < n) : rnM m0 m1 t c w q n (a + 1) := by
  refine ⟨h.1, fun x q0 q1 => ?_⟩
  by_cases e : x = (a : Nat)
  · rw [e]; exact ⟨h.2.2.1, fun b b0 b1 hm => h.2.2.2 b b0 (by omega) hm⟩
  · exact h.2.1 x q0 (by omega)
theorem rnM_end {m0 m1 : zM} {t : Int} {c w q : Int → Int} {n : Int} (h : rnM m0 m1 t c w q n n.toNat) (hn : 0 ≤ n ∧ n ≤ 12) : zfr (fR t) m0 m1 ∧ ptT m1 t ∧ cTh m1 t c ∧ cFl m1 t c w q n ∧ ∀ i, 0 ≤ i → i < 800 → m1 (t + 11) i = 1 := by
  obtain ⟨⟨h1, h2, h3, h4, h5, h6, h7⟩, h8⟩ := h
  refine ⟨h1, h2, h3, ⟨by rw [h4]; omega, fun i q0 q1 => ⟨(h5 i q0 (by omega)).1, (h5 i q0 (by omega)).2, (h8 i q0 (by omega)).1⟩, fun i j i0 i1 j0 j1 hm => (h8 i i0 (by omega)).2 j j0 j1 hm, h6⟩, h7⟩
theorem l_rnA (d : Nat) {E : zE} {m : zM} {P : Option zV → zM → Prop} (t : Int) (t0 : 0 < t) (sT : shT E t) (c : Int → Int) (hw : wfD c) (hx : cMz c) (w q : Int → Int) (n : Int) (hfl : isFlat c w q n) (hn : n ≤ 12) (p : Nat) (hp : (p : Int) < c 2) : ∀ (j : Nat) (k x : Nat) (m1 : zM), ((k : Int) + j = c (32 + 9 * (p : Int))) → ((x : Int) = cPre c p + k) → (rnI m m1 t c w q x) → (∀ (y : Nat) (m2 : zM), (y : Int) = cPre c (p + 1) → rnI m m2 t c w q y → zA zX7_renumber (d + 3) E E P 132 [zP t, zI (p : Nat), zN] [] m2 E) → zA zX7_renumber (d + 3) E E P 30 [zP t, zI (p : Nat), zI (k : Nat)] [] m1 E := by
  intro j
  induction j with
  | zero =>
    intro k x m1 hk hxk hI hP
    have b1 := hw.1
    have b2 := hw.2.1
    have b3 := hw.2.2.1
    have hl := flat_wfLD hw hfl hn
    have hn0 := hl.1
    have hO := pO sT hI.2.1 (p := (p : Nat)) (by omega) (by omega)
    have hPt := hI.2.2.1.2.2.2.2.2 (p : Nat) (by omega) (by omega)
    have hPw := hw.2.2.2.2.2 (p : Nat) (by omega) (by omega)
    refine z_iload_n dX7_renumber_30 rfl ?_
    refine z_aload_n dX7_renumber_31 rfl ?_
    refine z_gP 5 rfl (r := (t + 6)) flX7_30 dX7_renumber_32 (sT0 sT) rfl (pT5 hI.2.1) (by omega) ?_
    refine z_iload_n dX7_renumber_35 rfl ?_
    refine z_aald dX7_renumber_36 (sT6 sT) (by omega) (by omega) rfl (by omega) ?_
    refine z_gIv 1 rfl flX7_75 dX7_renumber_37 hO.1 rfl hPt.1 ?_
    refine z_icmp_ge (tgt := 132) dX7_renumber_40 rfl (fun h40 => ?_) (fun h => absurd (by omega) h)
    refine zA_wk [_, _, zN] (by exact ⟨Or.inr rfl, Or.inr rfl, Or.inl rfl, trivial⟩) ?_
    exact hP x m1 (by rw [cPre_s]; omega) hI
  | succ j ih =>
    intro k x m1 hk hxk hI hP
    have b1 := hw.1
    have b2 := hw.2.1
    have b3 := hw.2.2.1
    have hl := flat_wfLD hw hfl hn
    have hn0 := hl.1
    have hO := pO sT hI.2.1 (p := (p : Nat)) (by omega) (by omega)
    have hPt := hI.2.2.1.2.2.2.2.2 (p : Nat) (by omega) (by omega)
    have hPw := hw.2.2.2.2.2 (p : Nat) (by omega) (by omega)
    have hpn := cPre_monoD hw (a := p + 1) (b := (c 2).toNat) (by omega) (by omega)
    rw [cPre_s, ← hfl.1] at hpn
    obtain ⟨hwx, hqx⟩ := hfl.2 p k (by omega) (by omega)
    rw [← hxk] at hwx hqx
    have hxw := hl.2 (x : Nat) (by omega) (by omega)
    have hfw := hw.2.2.2.1 (w (x : Nat) / 2) (by omega) (by omega)
    have hml := zmask_lt (fun i => cOd c w (i : Int)) x
    have hm2 : (2 : Nat) ^ x ≤ 2 ^ 12 := Nat.pow_le_pow_right (by omega) (by omega)
    refine z_iload_n dX7_renumber_30 rfl ?_
    refine z_aload_n dX7_renumber_31 rfl ?_
    refine z_gP 5 rfl (r := (t + 6)) flX7_30 dX7_renumber_32 (sT0 sT) rfl (pT5 hI.2.1) (by omega) ?_
    refine z_iload_n dX7_renumber_35 rfl ?_
    refine z_aald dX7_renumber_36 (sT6 sT) (by omega) (by omega) rfl (by omega) ?_
    refine z_gIv 1 rfl flX7_75 dX7_renumber_37 hO.1 rfl hPt.1 ?_
    refine z_icmp_ge (tgt := 132) dX7_renumber_40 rfl (fun h => absurd h (by omega)) (fun h40 => ?_)
    refine z_aload_n dX7_renumber_43 rfl ?_
    refine z_gIv 14 rfl flX7_69 dX7_renumber_44 (sT0 sT) rfl hI.2.2.2.1 ?_
    refine z_bipush dX7_renumber_47 rfl (by decide) ?_
    refine z_icmp_ge (tgt := 132) dX7_renumber_49 rfl (fun h => absurd h (by omega)) (fun h49 => ?_)
    refine z_aload_n dX7_renumber_52 rfl ?_
    refine z_gP 6 rfl (r := (t + 7)) flX7_34 dX7_renumber_53 (sT0 sT) rfl (pT6 hI.2.1) (by omega) ?_
    refine z_aload_n dX7_renumber_56 rfl ?_
    refine z_gIv 14 rfl flX7_69 dX7_renumber_57 (sT0 sT) rfl hI.2.2.2.1 ?_
    refine z_aload_n dX7_renumber_60 rfl ?_
    refine z_gP 5 rfl (r := (t + 6)) flX7_30 dX7_renumber_61 (sT0 sT) rfl (pT5 hI.2.1) (by omega) ?_
    refine z_iload_n dX7_renumber_64 rfl ?_
    refine z_aald dX7_renumber_65 (sT6 sT) (by omega) (by omega) rfl (by omega) ?_
    refine z_gP 0 rfl (r := m1 (t + 6) (p : Nat) + 1) flX7_78 dX7_renumber_66 hO.1 rfl hO.2.2.1 (by omega) ?_
    refine z_iload_n dX7_renumber_69 rfl ?_
    refine z_ialv dX7_renumber_70 hO.2.1 (by omega) (by omega) (hPt.2.2.2 (k : Nat) (by omega) (by omega)) ?_
    rw [← hwx]
    refine z_iast dX7_renumber_71 (sT7 sT) (by omega) (by omega) ?_
    refine z_aload_n dX7_renumber_72 rfl ?_
    refine z_gP 7 rfl (r := (t + 8)) flX7_37 dX7_renumber_73 (sT0 sT) rfl (Eq.trans (zu_a (by omega)) (pT7 hI.2.1)) (by omega) ?_
    refine z_aload_n dX7_renumber_76 rfl ?_
    refine z_gIv 14 rfl flX7_69 dX7_renumber_77 (sT0 sT) rfl ((zu_a (by omega)).trans hI.2.2.2.1) ?_
    refine z_iload_n dX7_renumber_80 rfl ?_
    refine z_iast dX7_renumber_81 (sT8 sT) (by omega) (by omega) ?_
    obtain ⟨m2, em2⟩ : ∃ y : zM, y = zu (zu m1 (t + 7) (x : Nat) (w (x : Nat))) (t + 8) (x : Nat) (q (x : Nat)) := ⟨_, rfl⟩
    rw [show zu (zu m1 (t + 7) (x : Nat) (w (x : Nat))) (t + 8) (x : Nat) (p : Nat) = m2 by rw [em2, hqx]]
    have f2 : zfr (fR t) m1 m2 := by rw [em2]; exact zfr_ua (zfr_ua zfr_rf (by simp [fR])) (by simp [fR])
    have p2 := ptT_R hI.2.1 f2
    have c2 := cTh_R hI.2.1 hw hI.2.2.1 f2
    have k2 : m2 (t + 7) (x : Nat) = w (x : Nat) := by rw [em2, zu_a (by omega), zu_s]
    have l2 : m2 t 14 = (x : Nat) := by rw [em2, zu_a (by omega), zu_a (by omega)]; exact hI.2.2.2.1
    have o2 : m2 t 15 = ((zmask (fun i => cOd c w (i : Int)) x : Nat) : Int) := by rw [em2, zu_a (by omega), zu_a (by omega)]; exact hI.2.2.2.2.2.1
    refine z_aload_n dX7_renumber_82 rfl ?_
    refine z_gP 2 rfl (r := (t + 3)) flX7_19 dX7_renumber_83 (sT0 sT) rfl (pT2 p2) (by omega) ?_
    refine z_aload_n dX7_renumber_86 rfl ?_
    refine z_gP 6 rfl (r := (t + 7)) flX7_34 dX7_renumber_87 (sT0 sT) rfl (pT6 p2) (by omega) ?_
    refine z_aload_n dX7_renumber_90 rfl ?_
    refine z_gIv 14 rfl flX7_69 dX7_renumber_91 (sT0 sT) rfl l2 ?_
    refine z_ialv dX7_renumber_94 (sT7 sT) (by omega) (by omega) k2 ?_
    refine z_iconst dX7_renumber_95 (by decide) ?_
    refine z_div dX7_renumber_96 (by omega) (by omega) ?_
    refine z_zald dX7_renumber_97 (sT3 sT) (by omega) (by omega) ?_
    rw [(c2.2.2.2.1 (w (x : Nat) / 2) (by omega) (by omega)).2.2]
    refine z_if_eq (tgt := 116) dX7_renumber_98 rfl (fun h98 => ?_) (fun h98 => ?_)
    · refine z_aload_n dX7_renumber_116 rfl ?_
      refine z_dup dX7_renumber_117 rfl ?_
      refine z_gIv 14 rfl flX7_69 dX7_renumber_118 (sT0 sT) rfl l2 ?_
      refine z_iconst dX7_renumber_121 (by decide) ?_
      refine z_add dX7_renumber_122 (by omega) ?_
      refine z_pI 14 rfl (fpX7_69 _) dX7_renumber_123 (sT0 sT) rfl ?_
      refine z_inc dX7_renumber_126 rfl (by omega) ?_
      refine z_goto (tgt := 30) dX7_renumber_129 rfl ?_
      try dsimp only [zs0, zsI, zsP, zsN, zsJ, zsS, zst2, Nat.reduceAdd]
      have hI' := rnI_even hI hw (by unfold cOd; rw [decide_eq_false_iff_not]; omega)
      rw [← em2] at hI'
      rw [show (k : Int) + 1 = ((k + 1 : Nat) : Int) by omega, show (x : Int) + 1 = ((x + 1 : Nat) : Int) by omega]
      exact ih (k + 1) (x + 1) _ (by omega) (by omega) hI' hP
    · refine z_aload_n dX7_renumber_101 rfl ?_
      refine z_dup dX7_renumber_102 rfl ?_
      refine z_gIv 15 rfl flX7_72 dX7_renumber_103 (sT0 sT) rfl o2 ?_
      refine z_iconst dX7_renumber_106 (by decide) ?_
      refine z_aload_n dX7_renumber_107 rfl ?_
      refine z_gIv 14 rfl flX7_69 dX7_renumber_108 (sT0 sT) rfl l2 ?_
      refine z_ishl dX7_renumber_111 ?_
      refine z_ior dX7_renumber_112 ?_
      rw [zor_b (by omega) (by omega)]
      refine z_pI 15 rfl (fpX7_72 _) dX7_renumber_113 (sT0 sT) rfl ?_
      refine z_aload_n dX7_renumber_116 rfl ?_
      refine z_dup dX7_renumber_117 rfl ?_
      refine z_gIv 14 rfl flX7_69 dX7_renumber_118 (sT0 sT) rfl ((zu_j (by decide)).trans l2) ?_
      refine z_iconst dX7_renumber_121 (by decide) ?_
      refine z_add dX7_renumber_122 (by omega) ?_
      refine z_pI 14 rfl (fpX7_69 _) dX7_renumber_123 (sT0 sT) rfl ?_
      refine z_inc dX7_renumber_126 rfl (by omega) ?_
      refine z_goto (tgt := 30) dX7_renumber_129 rfl ?_
      try dsimp only [zs0, zsI, zsP, zsN, zsJ, zsS, zst2, Nat.reduceAdd]
      have hI' := rnI_odd hI hw (by unfold cOd; rw [decide_eq_true_eq]; omega)
      rw [← em2] at hI'
      rw [show (k : Int) + 1 = ((k + 1 : Nat) : Int) by omega, show (x : Int) + 1 = ((x + 1 : Nat) : Int) by omega]
      exact ih (k + 1) (x + 1) _ (by omega) (by omega) hI' hP

theorem l_rnB (d : Nat) {E : zE} {m : zM} {P : Option zV → zM → Prop} (t : Int) (t0 : 0 < t) (sT : shT E t) (c : Int → Int) (hw : wfD c) (hx : cMz c) (w q : Int → Int) (n : Int) (hfl : isFlat c w q n) (hn : n ≤ 12) : ∀ (j : Nat) (p x : Nat) (m1 : zM), (p + j = (c 2).toNat) → ((x : Int) = cPre c p) → (rnI m m1 t c w q x) → (∀ (y : Nat) (m2 : zM), (y : Int) = n → rnI m m2 t c w q y → zA zX7_renumber (d + 3) E E P 138 [zP t, zN, zN] [] m2 E) → zA zX7_renumber (d + 3) E E P 20 [zP t, zI (p : Nat), zN] [] m1 E := by
  intro j
  induction j with
  | zero =>
    intro p x m1 hp hxk hI hP
    have b1 := hw.1
    have b2 := hw.2.1
    have b3 := hw.2.2.1
    have hl := flat_wfLD hw hfl hn
    have hn0 := hl.1
    refine z_iload_n dX7_renumber_20 rfl ?_
    refine z_aload_n dX7_renumber_21 rfl ?_
    refine z_gIv 13 rfl flX7_57 dX7_renumber_22 (sT0 sT) rfl hI.2.2.1.2.2.1 ?_
    refine z_icmp_ge (tgt := 138) dX7_renumber_25 rfl (fun h25 => ?_) (fun h => absurd (by omega) h)
    refine zA_wk [_, zN, zN] (by exact ⟨Or.inr rfl, Or.inl rfl, Or.inl rfl, trivial⟩) ?_
    exact hP x m1 (by rw [hfl.1, hxk, show (c 2).toNat = p by omega]) hI
  | succ j ih =>
    intro p x m1 hp hxk hI hP
    have b1 := hw.1
    have b2 := hw.2.1
    have b3 := hw.2.2.1
    have hl := flat_wfLD hw hfl hn
    have hn0 := hl.1
    have hPw := hw.2.2.2.2.2 (p : Nat) (by omega) (by omega)
    refine z_iload_n dX7_renumber_20 rfl ?_
    refine z_aload_n dX7_renumber_21 rfl ?_
    refine z_gIv 13 rfl flX7_57 dX7_renumber_22 (sT0 sT) rfl hI.2.2.1.2.2.1 ?_
    refine z_icmp_ge (tgt := 138) dX7_renumber_25 rfl (fun h => absurd h (by omega)) (fun h25 => ?_)
    refine z_iconst dX7_renumber_28 (by decide) ?_
    refine z_ist 2 dX7_renumber_29 rfl (Nat.le_of_ble_eq_true rfl) ?_
    try dsimp only [zs0, zsI, zsP, zsN, zsJ, zsS, zst2, Nat.reduceAdd]
    refine l_rnA d t t0 sT c hw hx w q n hfl hn p (by omega) (c (32 + 9 * (p : Int))).toNat 0 x m1 (by omega) (by omega) hI (fun y m2 hy hI2 => ?_)
    refine z_inc dX7_renumber_132 rfl (by omega) ?_
    refine z_goto (tgt := 20) dX7_renumber_135 rfl ?_
    try dsimp only [zs0, zsI, zsP, zsN, zsJ, zsS, zst2, Nat.reduceAdd]
    rw [show (p : Int) + 1 = ((p + 1 : Nat) : Int) by omega]
    exact ih (p + 1) y m2 (by omega) hy hI2 hP

theorem l_rnC (d : Nat) {E : zE} {m : zM} {P : Option zV → zM → Prop} (t : Int) (t0 : 0 < t) (sT : shT E t) (c : Int → Int) (hw : wfD c) (hx : cMz c) (w q : Int → Int) (n : Int) (hfl : isFlat c w q n) (hn : n ≤ 12) (a : Nat) (ha : (a : Int) < n) : ∀ (j : Nat) (b : Nat) (m1 : zM), (b + j = n.toNat) → (rnL m m1 t c w q n a b) → (∀ m2, rnL m m2 t c w q n a n.toNat → zA zX7_renumber (d + 3) E E P 177 [zP t, zI (a : Nat), zN] [] m2 E) → zA zX7_renumber (d + 3) E E P 157 [zP t, zI (a : Nat), zI (b : Nat)] [] m1 E := by
  intro j
  induction j with
  | zero =>
    intro b m1 hb hL hP
    have b1 := hw.1
    have b2 := hw.2.1
    have b3 := hw.2.2.1
    have hl := flat_wfLD hw hfl hn
    have hn0 := hl.1
    refine z_iload_n dX7_renumber_157 rfl ?_
    refine z_aload_n dX7_renumber_158 rfl ?_
    refine z_gIv 14 rfl flX7_69 dX7_renumber_159 (sT0 sT) rfl hL.1.2.2.2.1 ?_
    refine z_icmp_ge (tgt := 177) dX7_renumber_162 rfl (fun h162 => ?_) (fun h => absurd (by omega) h)
    refine zA_wk [_, _, zN] (by exact ⟨Or.inr rfl, Or.inr rfl, Or.inl rfl, trivial⟩) ?_
    rw [show b = n.toNat by omega] at hL
    exact hP m1 hL
  | succ j ih =>
    intro b m1 hb hL hP
    have b1 := hw.1
    have b2 := hw.2.1
    have b3 := hw.2.2.1
    have hl := flat_wfLD hw hfl hn
    have hn0 := hl.1
    have hml := zmask_lt (fun j => cMay c w q (a : Nat) (j : Int)) b
    have hm2 : (2 : Nat) ^ b ≤ 2 ^ 12 := Nat.pow_le_pow_right (by omega) (by omega)
    refine z_iload_n dX7_renumber_157 rfl ?_
    refine z_aload_n dX7_renumber_158 rfl ?_
    refine z_gIv 14 rfl flX7_69 dX7_renumber_159 (sT0 sT) rfl hL.1.2.2.2.1 ?_
    refine z_icmp_ge (tgt := 177) dX7_renumber_162 rfl (fun h => absurd h (by omega)) (fun h162 => ?_)
    refine z_aload_n dX7_renumber_165 rfl ?_
    refine z_iload_n dX7_renumber_166 rfl ?_
    refine z_iload_n dX7_renumber_167 rfl ?_
    refine z_callV mlX7_81 dX7_renumber_168 (sT0 sT) (av := [_, _]) rfl rfl (Nat.le_of_ble_eq_true rfl) (c_linkLetters d t t0 sT hL.1.2.1 c hw hL.1.2.2.1 hx w q n hl (fun i q0 q1 => hL.1.2.2.2.2.1 i q0 (by omega)) (a : Nat) b (by omega) ha (by omega) (zmask (fun j => cMay c w q (a : Nat) (j : Int)) b) (by omega) hL.2.2.1) (Nat.le_refl _) (Nat.le_refl _) (Nat.le_refl _) (Nat.le_refl _) ?_
    rintro _ m2 ⟨rfl, e2⟩
    have hL' := rnL_step hL hw hl (by omega) (by omega) e2
    refine z_inc dX7_renumber_171 rfl (by omega) ?_
    refine z_goto (tgt := 157) dX7_renumber_174 rfl ?_
    try dsimp only [zs0, zsI, zsP, zsN, zsJ, zsS, zst2, Nat.reduceAdd]
    rw [show (b : Int) + 1 = ((b + 1 : Nat) : Int) by omega]
    exact ih (b + 1) m2 (by omega) hL' hP

theorem l_rnD (d : Nat) {E : zE} {m : zM} {P : Option zV → zM → Prop} (t : Int) (t0 : 0 < t) (sT : shT E t) (c : Int → Int) (hw : wfD c) (hx : cMz c) (w q : Int → Int) (n : Int) (hfl : isFlat c w q n) (hn : n ≤ 12) : ∀ (j : Nat) (a : Nat) (m1 : zM), (a + j = n.toNat) → (rnM m m1 t c w q n a) → (∀ m2, rnM m m2 t c w q n n.toNat → P none m2) → zA zX7_renumber (d + 3) E E P 140 [zP t, zI (a : Nat), zN] [] m1 E := by
  intro j
  induction j with
  | zero =>
    intro a m1 ha hL hP
    have b1 := hw.1
    have b2 := hw.2.1
    have b3 := hw.2.2.1
    have hl := flat_wfLD hw hfl hn
    have hn0 := hl.1
    refine z_iload_n dX7_renumber_140 rfl ?_
    refine z_aload_n dX7_renumber_141 rfl ?_
    refine z_gIv 14 rfl flX7_69 dX7_renumber_142 (sT0 sT) rfl hL.1.2.2.2.1 ?_
    refine z_icmp_ge (tgt := 183) dX7_renumber_145 rfl (fun h145 => ?_) (fun h => absurd (by omega) h)
    refine z_vret dX7_renumber_183 rfl rfl ?_
    rw [show a = n.toNat by omega] at hL
    exact hP m1 hL
  | succ j ih =>
    intro a m1 ha hL hP
    have b1 := hw.1
    have b2 := hw.2.1
    have b3 := hw.2.2.1
    have hl := flat_wfLD hw hfl hn
    have hn0 := hl.1
    refine z_iload_n dX7_renumber_140 rfl ?_
    refine z_aload_n dX7_renumber_141 rfl ?_
    refine z_gIv 14 rfl flX7_69 dX7_renumber_142 (sT0 sT) rfl hL.1.2.2.2.1 ?_
    refine z_icmp_ge (tgt := 183) dX7_renumber_145 rfl (fun h => absurd h (by omega)) (fun h145 => ?_)
    refine z_aload_n dX7_renumber_148 rfl ?_
    refine z_gP 8 rfl (r := (t + 9)) flX7_40 dX7_renumber_149 (sT0 sT) rfl (pT8 hL.1.2.1) (by omega) ?_
    refine z_iload_n dX7_renumber_152 rfl ?_
    refine z_iconst dX7_renumber_153 (by decide) ?_
    refine z_iast dX7_renumber_154 (sT9 sT) (by omega) (by omega) ?_
    refine z_iconst dX7_renumber_155 (by decide) ?_
    refine z_ist 2 dX7_renumber_156 rfl (Nat.le_of_ble_eq_true rfl) ?_
    try dsimp only [zs0, zsI, zsP, zsN, zsJ, zsS, zst2, Nat.reduceAdd]
    refine l_rnC d t t0 sT c hw hx w q n hfl hn a (by omega) n.toNat 0 _ (by omega) (rnL_new hL hw) (fun m2 hL2 => ?_)
    refine z_inc dX7_renumber_177 rfl (by omega) ?_
    refine z_goto (tgt := 140) dX7_renumber_180 rfl ?_
    try dsimp only [zs0, zsI, zsP, zsN, zsJ, zsS, zst2, Nat.reduceAdd]
    rw [show (a : Int) + 1 = ((a + 1 : Nat) : Int) by omega]
    exact ih (a + 1) m2 (by omega) (rnM_next hL2 (by omega)) hP

theorem c_renumber (d : Nat) {E : zE} {m : zM} (t : Int) (t0 : 0 < t) (sT : shT E t) (pT : ptT m t) (c : Int → Int) (hw : wfD c) (hc : cTh m t c) (hx : cMz c) (w q : Int → Int) (n : Int) (hfl : isFlat c w q n) (hn : n ≤ 12) : zR zX7_renumber (d + 3) [zP t] m E E (fun r m' => r = none ∧ zfr (fR t) m m' ∧ ptT m' t ∧ cTh m' t c ∧ cFl m' t c w q n ∧ ∀ i, 0 ≤ i → i < 800 → m' (t + 11) i = 1) := by
  have b1 := hw.1
  have b2 := hw.2.1
  have b3 := hw.2.2.1
  have hl := flat_wfLD hw hfl hn
  have hn0 := hl.1
  refine zR_go [zP t, zN, zN] (by decide +kernel) (Nat.le_of_ble_eq_true rfl) rfl rfl ?_
  refine z_aload_n dX7_renumber_0 rfl ?_
  refine z_gP 10 rfl (r := (t + 11)) flX7_46 dX7_renumber_1 (sT0 sT) rfl (pT10 pT) (by omega) ?_
  refine z_iconst dX7_renumber_4 (by decide) ?_
  refine z_callS mlX7_63 dX7_renumber_5 (av := [_, _]) rfl rfl (Nat.le_of_ble_eq_true rfl) (c_fill _ (t + 11) 1 800 (sT11 sT) (by decide)) (Nat.le_refl _) (Nat.le_refl _) (Nat.le_refl _) (Nat.le_refl _) ?_
  rintro _ m1 ⟨rfl, f1, v1⟩
  refine z_aload_n dX7_renumber_8 rfl ?_
  refine z_iconst dX7_renumber_9 (by decide) ?_
  refine z_pI 14 rfl (fpX7_69 _) dX7_renumber_10 (sT0 sT) rfl ?_
  refine z_aload_n dX7_renumber_13 rfl ?_
  refine z_iconst dX7_renumber_14 (by decide) ?_
  refine z_pI 15 rfl (fpX7_72 _) dX7_renumber_15 (sT0 sT) rfl ?_
  obtain ⟨m2, em2⟩ : ∃ x, x = zu (zu m1 t 14 0) t 15 0 := ⟨_, rfl⟩
  rw [← em2]
  have hI : rnI m m2 t c w q 0 := by
    have f2 : zfr (fR t) m m2 := by rw [em2]; exact zfr_uj (zfr_uj (zfr_sub f1 (by simp [fR])) (by simp [fR])) (by simp [fR])
    refine ⟨f2, ptT_R pT f2, cTh_R pT hw hc f2, by rw [em2, zu_j (by decide), zu_s]; rfl, fun i q0 q1 => absurd q1 (by omega), by rw [em2, zu_s]; rfl, fun i q0 q1 => by rw [em2, zu_a (by omega), zu_a (by omega)]; exact v1 i q0 q1⟩
  refine z_iconst dX7_renumber_18 (by decide) ?_
  refine z_ist 1 dX7_renumber_19 rfl (Nat.le_of_ble_eq_true rfl) ?_
  try dsimp only [zs0, zsI, zsP, zsN, zsJ, zsS, zst2, Nat.reduceAdd]
  refine l_rnB d t t0 sT c hw hx w q n hfl hn (c 2).toNat 0 0 m2 (by omega) rfl hI (fun y m3 hy hI3 => ?_)
  refine z_iconst dX7_renumber_138 (by decide) ?_
  refine z_ist 1 dX7_renumber_139 rfl (Nat.le_of_ble_eq_true rfl) ?_
  try dsimp only [zs0, zsI, zsP, zsN, zsJ, zsS, zst2, Nat.reduceAdd]
  exact l_rnD d t t0 sT c hw hx w q n hfl hn n.toNat 0 m3 (by omega) (rnM_0 (show y = n.toNat by omega) hI3) (fun m4 h4 => ⟨rfl, rnM_end h4 hl.1⟩)
