abbrev tOdd (T : zT) : Prop := ∀ x y : Int, 0 ≤ x → x < T.2.2.2.toNat → 0 ≤ y → y < T.2.2.2.toNat → cMay T.1 T.2.1 T.2.2.1 x y = true → cOd T.1 T.2.1 x = cOd T.1 T.2.1 y
/-- what lies apart from what -/
def dDj (t p a ka b : Int) : Prop := 15 < ka ∧ (ka + 1 < 22 ∨ 24 < ka) ∧ 24 < b ∧ (ka + 1 < t ∨ t + 28 ≤ ka) ∧ (ka + 1 < b ∨ b + 8 ≤ ka) ∧ (b + 8 ≤ t ∨ t + 28 ≤ b) ∧ (0 < p ∧ p < 14) ∧ 0 < a ∧ (a + 1 < 14 ∨ (24 < a ∧ (a + 1 < b ∨ b + 8 ≤ a))) ∧ (a + 1 < ka ∨ ka + 1 < a)
def fBd (ka b : Int) : List (Int × Option Int) := [(23, none), (24, none), (ka, none), (ka + 1, none), (b, none), (b + 1, none), (b + 2, none), (b + 3, none), (b + 4, none), (b + 7, none), (14, some 18)]
theorem fBd_o {m m' : zM} {ka b c k : Int} (f : zfr (fBd ka b) m m') (h : c ≠ 23 ∧ c ≠ 24 ∧ c ≠ ka ∧ c ≠ ka + 1 ∧ (c < b ∨ b + 8 ≤ c) ∧ (c ≠ 14 ∨ k ≠ 18)) : m' c k = m c k := f c k (by simp [fBd]; omega) (by simp [fBd]; omega)
theorem pTb_e {m m' : zM} {p a : Int} {n : Nat} {od br : Int → Bool} {A : Nat} {L : zLr} {ρ : Int} (h : pTb m p a n od br A L ρ) (e1 : ∀ x, m' p x = m p x) (e2 : ∀ x, m' a x = m a x) (e3 : ∀ x, m' (a + 1) x = m (a + 1) x) : pTb m' p a n od br A L ρ := by
  unfold pTb at *
  simp only [e1, e2, e3]
  exact h
theorem xC_f {m m' : zM} {L : zLn} (h : xC m L) (e1 : m' 14 13 = m 14 13) (e2 : ∀ x, m' 22 x = m 22 x) : xC m' L := by
  unfold xC at *
  simp only [e1, e2]
  exact h
theorem qDg_f {m m' : zM} {b : Int} (h : qDg m 14 b) (e : ∀ x : Int, 5 ≤ x → x ≤ 12 → m' 14 x = m 14 x) : qDg m' 14 b := by
  unfold qDg at *
  rw [e 5 (by decide) (by decide), e 6 (by decide) (by decide), e 7 (by decide) (by decide), e 8 (by decide) (by decide), e 9 (by decide) (by decide), e 10 (by decide) (by decide), e 11 (by decide) (by decide), e 12 (by decide) (by decide)]
  exact h
theorem bS_keys {T : zT} {i : Nat} {D : List Int} {F : Int → Int} (hw : wfC T.1) (hf : isFlat T.1 T.2.1 T.2.2.1 T.2.2.2) (hn : T.2.2.2 ≤ 12) (hB : bS T ((tPairs T).take i) D F) : ∀ v, F v ≠ -1 → v ∈ (tPairs T).map (tKy T) := fun v hv => by
  obtain ⟨j, -, r, r1, r2, -⟩ := hB.2.2.1 v hv
  exact keys_in hw hf hn (List.mem_of_mem_take r1) r2
theorem bS_fresh {T : zT} {R : zLr} {D : List Int} {F : Int → Int} {s : Int → Int} (hw : wfC T.1) (hl : wfL T.1 T.2.1 T.2.2.1 T.2.2.2) (hR : ∀ r ∈ R, sFull T.2.2.2.toNat (cMay T.1 T.2.1 T.2.2.1) r) (k : sFull T.2.2.2.toNat (cMay T.1 T.2.1 T.2.2.1) s) (hB : bS T R D F) (hF : F (tKy T s) = -1) : ∀ r ∈ R, tName T r ≠ tName T s := fun r hr e => hB.2.2.2 _ ⟨r, hr, orb_of hw hl (hR r hr) k e.symm⟩ hF
theorem op_at {m4 : zM} {b sz v0 v3 v4 y : Int} (hb : 24 < b) : (∀ c i : Int, (c < b ∨ b + 4 < c ∨ i ≠ sz) → (c ≠ 14 ∨ i ≠ 18) → zu (zu (zu (zu (zu (zu m4 b sz v0) (b + 1) sz 0) (b + 2) sz 0) (b + 3) sz v3) (b + 4) sz v4) 14 18 y c i = m4 c i) ∧ zu (zu (zu (zu (zu (zu m4 b sz v0) (b + 1) sz 0) (b + 2) sz 0) (b + 3) sz v3) (b + 4) sz v4) 14 18 y b sz = v0 ∧ zu (zu (zu (zu (zu (zu m4 b sz v0) (b + 1) sz 0) (b + 2) sz 0) (b + 3) sz v3) (b + 4) sz v4) 14 18 y (b + 1) sz = 0 ∧ zu (zu (zu (zu (zu (zu m4 b sz v0) (b + 1) sz 0) (b + 2) sz 0) (b + 3) sz v3) (b + 4) sz v4) 14 18 y (b + 2) sz = 0 ∧ zu (zu (zu (zu (zu (zu m4 b sz v0) (b + 1) sz 0) (b + 2) sz 0) (b + 3) sz v3) (b + 4) sz v4) 14 18 y (b + 3) sz = v3 ∧ zu (zu (zu (zu (zu (zu m4 b sz v0) (b + 1) sz 0) (b + 2) sz 0) (b + 3) sz v3) (b + 4) sz v4) 14 18 y (b + 4) sz = v4 ∧ zu (zu (zu (zu (zu (zu m4 b sz v0) (b + 1) sz 0) (b + 2) sz 0) (b + 3) sz v3) (b + 4) sz v4) 14 18 y 14 18 = y := by
  have zn : ∀ {m : zM} {a j x c i : Int}, ¬ (c = a ∧ i = j) → zu m a j x c i = m c i := fun {m a j x c i} h => if_neg h
  refine ⟨fun c i h1 h2 => ?_, ?_, ?_, ?_, ?_, ?_, zu_s⟩
  · rw [zn (by omega), zn (by omega), zn (by omega), zn (by omega), zn (by omega), zn (by omega)]
  · rw [zu_a (by omega), zu_a (by omega), zu_a (by omega), zu_a (by omega), zu_a (by omega), zu_s]
  · rw [zu_a (by omega), zu_a (by omega), zu_a (by omega), zu_a (by omega), zu_s]
  · rw [zu_a (by omega), zu_a (by omega), zu_a (by omega), zu_s]
  · rw [zu_a (by omega), zu_a (by omega), zu_s]
  · rw [zu_a (by omega), zu_s]
theorem zfr_op {m m2 m4 : zM} {ka b sz v0 v3 v4 y : Int} (f : zfr (fBd ka b) m m2) (g : zfr (fOp ka) m2 m4) : zfr (fBd ka b) m (zu (zu (zu (zu (zu (zu m4 b sz v0) (b + 1) sz 0) (b + 2) sz 0) (b + 3) sz v3) (b + 4) sz v4) 14 18 y) := zfr_uj (zfr_ua (zfr_ua (zfr_ua (zfr_ua (zfr_ua (zfr_tr f (zfr_sub g (by simp [fOp, fBd]))) (by simp [fBd])) (by simp [fBd])) (by simp [fBd])) (by simp [fBd])) (by simp [fBd])) (by simp [fBd])
theorem l_bd123 (d : Nat) {E0 E : zE} {m m3 : zM} {P : Option zV → zM → Prop} (s14 : E.1 14 = (6, 20)) (s22 : E.1 22 = (1, 120)) (s23 : E.1 23 = (1, 6)) (s24 : E.1 24 = (1, 6)) (q22 : m 14 2 = 22) (q23 : m 14 3 = 23) (q24 : m 14 4 = 24) (q12 : m 14 0 = 15) (t : Int) (t7 : 24 < t) (sT : shT E t) (pT : ptT m t) (T : zT) (hw : wfC T.1) (hl : wfL T.1 T.2.1 T.2.2.1 T.2.2.2) (hfl : isFlat T.1 T.2.1 T.2.2.1 T.2.2.2) (hc : cTh m t T.1) (hF : cFl m t T.1 T.2.1 T.2.2.1 T.2.2.2) (hod : tOdd T) (hV : zsum (fun p => zb (T.1 (32 + 9 * p + 1) = 1)) (T.1 2).toNat 0 ≤ 5) (p a cap : Int) (sp : E.1 p = (10, 7)) (sa : E.1 a = (2, cap)) (sb : E.1 (a + 1) = (1, cap)) (ρ : Int) (hTb : pTb m p a T.2.2.2.toNat (cOd T.1 T.2.1) (cBr T.1 T.2.1) (fA T.2.2.2.toNat) (tPairs T) ρ) (hok : ∀ r ∈ tPairs T, rOk T.2.2.2.toNat (cMay T.1 T.2.1 T.2.2.1) (fA T.2.2.2.toNat) r) (hL : ((tPairs T).length : Int) ≤ cap) (hLb : (tPairs T).length ≤ 10395) (hρ : 0 ≤ ρ ∧ ρ ≤ 1) (so : E.1 15 = (8, 3)) (ka kcap : Int) (ska : E.1 ka = (2, kcap)) (skb : E.1 (ka + 1) = (1, kcap)) (k0 : m 15 0 = ka) (k1 : m 15 1 = ka + 1) (e : Nat) (he : e ≤ 14) (k2 : m 15 2 = ((2 ^ e : Nat) : Int)) (hs2 : ((2 ^ e : Nat) : Int) ≤ kcap) (hLe : ((tPairs T).length : Int) < ((2 ^ e : Nat) : Int)) (b bcap : Int) (sB : shDg E b bcap) (qB_ : qDg m 14 b) (hLc : ((tPairs T).length : Int) ≤ bcap) (dj : dDj t p a ka b) (q14 : m 14 14 = (tH T : Int)) (hx : xC m (allCh T.1)) (i : Nat) (s : Int → Int) (hs : (tPairs T)[i]? = some s) (i0 : Nat) (D : List Int) (F : Int → Int) (cc : Int) (hDi : D.length ≤ i + 1) (hf : zfr (fBd ka b) m m3) (hB : bS T ((tPairs T).take (i + 1)) D F) (hK : kT m3 ka e F cc) (hD : m3 14 18 = (D.length : Int)) (hS : dS m3 b T (tPairs T) ((tPairs T).take i) D) (hi : D[i0]? = some (tName T s)) (key : Int) (hP : ∀ m', zfr (fBd ka b) m m' → kT m' ka e F cc → m' 14 18 = (D.length : Int) → dS m' b T (tPairs T) ((tPairs T).take (i + 1)) D → zA zX0_build (d + 3) E0 E P 76 [zP 14, zP t, zP p, zI ((i + 1 : Nat) : Int), zN, zN, zN] [] m' E) : zA zX0_build (d + 3) E0 E P 123 [zP 14, zP t, zP p, zI (i : Nat), zJ key, zN, zI (i0 : Nat)] [] m3 E := by
  obtain ⟨dj1, dj2, dj3, dj4, dj5, dj6, dj7, dj8, dj9, dj10⟩ := dj
  have hn := hl.1
  have hiL : i < (tPairs T).length := (List.getElem?_eq_some_iff.mp hs).1
  have hi0 : i0 < D.length := (List.getElem?_eq_some_iff.mp hi).1
  have hbd := dS_bd hS hi
  rw [List.length_take] at hbd
  refine z_aload_n dX0_build_123 rfl ?_
  refine z_gP 12 rfl (r := b + 7) flX0_57 dX0_build_124 s14 rfl ((fBd_o hf (by omega)).trans qB_.2.2.2.2.2.2.2.1) (by omega) ?_
  refine z_iload_n dX0_build_127 rfl ?_
  refine z_iload dX0_build_128 rfl ?_
  refine z_iast dX0_build_130 sB.2.2.2.2.2.2.2 (by omega) (by omega) ?_
  refine z_aload_n dX0_build_131 rfl ?_
  refine z_gP 6 rfl (r := b + 1) flX0_39 dX0_build_132 s14 rfl ((zu_a (by omega)).trans ((fBd_o hf (by omega)).trans qB_.2.1)) (by omega) ?_
  refine z_iload dX0_build_135 rfl ?_
  refine z_dup2 dX0_build_137 rfl rfl ?_
  refine z_ialv dX0_build_138 sB.2.1 (by omega) (by omega) (zu_a (by omega)) ?_
  refine z_iconst dX0_build_139 (by decide) ?_
  refine z_add dX0_build_140 (by omega) ?_
  refine z_iast dX0_build_141 sB.2.1 (by omega) (by omega) ?_
  refine z_aload_n dX0_build_142 rfl ?_
  refine z_gP 7 rfl (r := b + 2) flX0_42 dX0_build_143 s14 rfl ((zu_a (by omega)).trans ((zu_a (by omega)).trans ((fBd_o hf (by omega)).trans qB_.2.2.1))) (by omega) ?_
  refine z_iload dX0_build_146 rfl ?_
  refine z_dup2 dX0_build_148 rfl rfl ?_
  refine z_ialv dX0_build_149 sB.2.2.1 (by omega) (by omega) (Eq.trans (zu_a (by omega)) (zu_a (by omega))) ?_
  refine z_aload_n dX0_build_150 rfl ?_
  refine z_iload_n dX0_build_151 rfl ?_
  refine z_callV mlX0_121 dX0_build_152 sp (av := [_]) rfl rfl (Nat.le_of_ble_eq_true rfl) (c_tSign _ p a cap sp sa sb (by omega) T.2.2.2.toNat (by omega) (cMay T.1 T.2.1 T.2.2.1) (cOd T.1 T.2.1) (cBr T.1 T.2.1) (fA T.2.2.2.toNat) (tPairs T) ρ (pTb_e hTb (fun x => ((zu_a (by omega)).trans ((zu_a (by omega)).trans (fBd_o hf (by omega))))) (fun x => ((zu_a (by omega)).trans ((zu_a (by omega)).trans (fBd_o hf (by omega))))) (fun x => ((zu_a (by omega)).trans ((zu_a (by omega)).trans (fBd_o hf (by omega)))))) hok hL hLb hρ i s hs) (Nat.le_refl _) (Nat.le_refl _) (Nat.le_refl _) (Nat.le_refl _) ?_
  rintro _ _ ⟨rfl, rfl⟩
  rw [row_tr (by omega) (hok s (List.mem_of_getElem? hs)) hod]
  have hsg : -1 ≤ sSign T.2.2.2.toNat (cOd T.1 T.2.1) (cBr T.1 T.2.1) s ∧ sSign T.2.2.2.toNat (cOd T.1 T.2.1) (cBr T.1 T.2.1) s ≤ 1 := by unfold sSign zpar; split <;> omega
  refine z_add dX0_build_155 (by omega) ?_
  refine z_iast dX0_build_156 sB.2.2.1 (by omega) (by omega) ?_
  refine z_inc dX0_build_157 rfl (by omega) ?_
  refine z_goto (tgt := 76) dX0_build_160 rfl ?_
  try dsimp only [zs0, zsI, zsP, zsN, zsJ, zsS, zst2, Nat.reduceAdd]
  refine zA_wk [_, _, _, _, zN, zN, zN] (by exact ⟨Or.inr rfl, Or.inr rfl, Or.inr rfl, Or.inr rfl, Or.inl rfl, Or.inl rfl, Or.inl rfl, trivial⟩) ?_
  rw [show (i : Int) + 1 = ((i + 1 : Nat) : Int) by omega]
  exact hP _ (zfr_ua (zfr_ua (zfr_ua hf (by simp [fBd])) (by simp [fBd])) (by simp [fBd])) (kT_fr hK (funext fun x => ((zu_a (by omega)).trans ((zu_a (by omega)).trans ((zu_a (by omega)).trans rfl)))) (funext fun x => ((zu_a (by omega)).trans ((zu_a (by omega)).trans ((zu_a (by omega)).trans rfl))))) (((zu_a (by omega)).trans ((zu_a (by omega)).trans ((zu_a (by omega)).trans hD)))) (dS_cnt hB.1 hs hS hi)

theorem l_build (d : Nat) {E0 E : zE} {m : zM} {P : Option zV → zM → Prop} (s14 : E.1 14 = (6, 20)) (s22 : E.1 22 = (1, 120)) (s23 : E.1 23 = (1, 6)) (s24 : E.1 24 = (1, 6)) (q22 : m 14 2 = 22) (q23 : m 14 3 = 23) (q24 : m 14 4 = 24) (q12 : m 14 0 = 15) (t : Int) (t7 : 24 < t) (sT : shT E t) (pT : ptT m t) (T : zT) (hw : wfC T.1) (hl : wfL T.1 T.2.1 T.2.2.1 T.2.2.2) (hfl : isFlat T.1 T.2.1 T.2.2.1 T.2.2.2) (hc : cTh m t T.1) (hF : cFl m t T.1 T.2.1 T.2.2.1 T.2.2.2) (hod : tOdd T) (hV : zsum (fun p => zb (T.1 (32 + 9 * p + 1) = 1)) (T.1 2).toNat 0 ≤ 5) (p a cap : Int) (sp : E.1 p = (10, 7)) (sa : E.1 a = (2, cap)) (sb : E.1 (a + 1) = (1, cap)) (ρ : Int) (hTb : pTb m p a T.2.2.2.toNat (cOd T.1 T.2.1) (cBr T.1 T.2.1) (fA T.2.2.2.toNat) (tPairs T) ρ) (hok : ∀ r ∈ tPairs T, rOk T.2.2.2.toNat (cMay T.1 T.2.1 T.2.2.1) (fA T.2.2.2.toNat) r) (hL : ((tPairs T).length : Int) ≤ cap) (hLb : (tPairs T).length ≤ 10395) (hρ : 0 ≤ ρ ∧ ρ ≤ 1) (so : E.1 15 = (8, 3)) (ka kcap : Int) (ska : E.1 ka = (2, kcap)) (skb : E.1 (ka + 1) = (1, kcap)) (k0 : m 15 0 = ka) (k1 : m 15 1 = ka + 1) (e : Nat) (he : e ≤ 14) (k2 : m 15 2 = ((2 ^ e : Nat) : Int)) (hs2 : ((2 ^ e : Nat) : Int) ≤ kcap) (hLe : ((tPairs T).length : Int) < ((2 ^ e : Nat) : Int)) (b bcap : Int) (sB : shDg E b bcap) (qB_ : qDg m 14 b) (hLc : ((tPairs T).length : Int) ≤ bcap) (dj : dDj t p a ka b) (q14 : m 14 14 = (tH T : Int)) (hx : xC m (allCh T.1)) : ∀ (j : Nat) (i : Nat) (D : zLi) (F : zFn) (cc : Int) (m1 : zM), (i + j = (tPairs T).length) → (D.length ≤ i) → (zfr (fBd ka b) m m1) → (bS T ((tPairs T).take i) D F) → (kT m1 ka e F cc) → (m1 14 18 = (D.length : Int)) → (dS m1 b T (tPairs T) ((tPairs T).take i) D) → (∀ m' D F cc, zfr (fBd ka b) m m' → bS T (tPairs T) D F → kT m' ka e F cc → m' 14 18 = (D.length : Int) → D.length ≤ (tPairs T).length → dS m' b T (tPairs T) (tPairs T) D → zA zX0_build (d + 3) E0 E P 163 [zP 14, zP t, zP p, zN, zN, zN, zN] [] m' E) → zA zX0_build (d + 3) E0 E P 76 [zP 14, zP t, zP p, zI (i : Nat), zN, zN, zN] [] m1 E := by
  intro j
  induction j with
  | zero =>
    intro i D F cc m1 hj hDi hf hB hK hD hS hP
    have dj0 := dj
    obtain ⟨dj1, dj2, dj3, dj4, dj5, dj6, dj7, dj8, dj9, dj10⟩ := dj
    have hn := hl.1
    have hcc : cc < ((2 ^ e : Nat) : Int) := by
      have := kT_cnt hK ((tPairs T).map (tKy T)) (bS_keys hw hfl (by omega) hB)
      rw [List.length_map] at this
      omega
    refine z_iload_n dX0_build_76 rfl ?_
    refine z_aload_n dX0_build_77 rfl ?_
    refine z_gIv 2 rfl flX0_60 dX0_build_78 sp rfl ((fBd_o hf (by omega)).trans hTb.2.2.1) ?_
    refine z_icmp_ge (tgt := 163) dX0_build_81 rfl (fun h81 => ?_) (fun h => absurd (by omega) h)
    refine zA_wk [_, _, _, zN, zN, zN, zN] (by exact ⟨Or.inr rfl, Or.inr rfl, Or.inr rfl, Or.inl rfl, Or.inl rfl, Or.inl rfl, Or.inl rfl, trivial⟩) ?_
    rw [List.take_of_length_le (by omega)] at hB hS
    exact hP m1 D F cc hf hB hK hD (by omega) hS
  | succ j ih =>
    intro i D F cc m1 hj hDi hf hB hK hD hS hP
    have dj0 := dj
    obtain ⟨dj1, dj2, dj3, dj4, dj5, dj6, dj7, dj8, dj9, dj10⟩ := dj
    have hn := hl.1
    have hcc : cc < ((2 ^ e : Nat) : Int) := by
      have := kT_cnt hK ((tPairs T).map (tKy T)) (bS_keys hw hfl (by omega) hB)
      rw [List.length_map] at this
      omega
    obtain ⟨s, hs⟩ : ∃ s, (tPairs T)[i]? = some s := ⟨(tPairs T)[i]'(by omega), List.getElem?_eq_getElem (by omega)⟩
    have hmem := List.mem_of_getElem? hs
    have hfu := tP_full (T := T) (by omega) hmem
    have hfR : ∀ r ∈ (tPairs T).take i, sFull T.2.2.2.toNat (cMay T.1 T.2.1 T.2.2.1) r := fun r hr => tP_full (by omega) (List.mem_of_mem_take hr)
    have htk : (tPairs T).take (i + 1) = (tPairs T).take i ++ [s] := by rw [List.take_add_one, hs]; rfl
    have ht1 : ∀ b' j, t ≤ b' → b' < t + 28 → m1 b' j = m b' j := fun b' j h1 h2 => fBd_o hf (by omega)
    refine z_iload_n dX0_build_76 rfl ?_
    refine z_aload_n dX0_build_77 rfl ?_
    refine z_gIv 2 rfl flX0_60 dX0_build_78 sp rfl ((fBd_o hf (by omega)).trans hTb.2.2.1) ?_
    refine z_icmp_ge (tgt := 163) dX0_build_81 rfl (fun h => absurd h (by omega)) (fun h81 => ?_)
    refine z_aload_n dX0_build_84 rfl ?_
    refine z_aload_n dX0_build_85 rfl ?_
    refine z_aload_n dX0_build_86 rfl ?_
    refine z_iload_n dX0_build_87 rfl ?_
    refine z_callV mlX0_109 dX0_build_88 s14 (av := [_, _, _]) rfl rfl (Nat.le_of_ble_eq_true rfl) (c_rowOf _ s14 s22 s23 s24 ((fBd_o hf (by omega)).trans q22) ((fBd_o hf (by omega)).trans q23) ((fBd_o hf (by omega)).trans q24) t t7 sT (ptT_in pT ht1) T.1 T.2.1 T.2.2.1 T.2.2.2 hw hl (cTh_in pT (wfD_of hw) hc ht1) (cFl_in hF ht1) p a cap sp sa sb (by omega) (by omega) (fA T.2.2.2.toNat) (fun x hx => by rw [fA_bit]; exact decide_eq_true hx) (tPairs T) ρ (pTb_e hTb (fun x => fBd_o hf (by omega)) (fun x => fBd_o hf (by omega)) (fun x => fBd_o hf (by omega))) hok hL hLb hρ i s hs) (Nat.le_refl _) (Nat.le_refl _) (Nat.le_refl _) (Nat.le_refl _) ?_
    rintro _ m2 ⟨rfl, g2, hpm, hsr⟩
    rw [sCL_cg (sMk_fA (by omega) s)] at hpm ⊢
    rw [show sKey (lf (sCL T.2.2.2.toNat (cCode T.1 T.2.1 T.2.2.1) s T.2.2.2.toNat 0)) (T.2.2.2 / 2).toNat = tKy T s from rfl]
    have hpm : pm (m2 23) (rowF T s) (tH T) := hpm
    have f2 : zfr (fBd ka b) m m2 := zfr_tr hf (zfr_sub g2 (by simp [fBd]))
    have hK2 : kT m2 ka e F cc := kT_fr hK (funext fun x => fB_o g2 (by omega)) (funext fun x => fB_o g2 (by omega))
    have hS2 : dS m2 b T (tPairs T) ((tPairs T).take i) D := dS_eq hS (fun x i x0 x1 => fB_o g2 (by omega))
    have hD2 : m2 14 18 = (D.length : Int) := (fB_o g2 (by omega)).trans hD
    have ht2 : ∀ b' j, t ≤ b' → b' < t + 28 → m2 b' j = m b' j := fun b' j h1 h2 => fBd_o f2 (by omega)
    refine z_lstore dX0_build_91 (Nat.le_of_ble_eq_true rfl) ?_
    refine z_aload_n dX0_build_93 rfl ?_
    refine z_gP 0 rfl (r := 15) flX0_12 dX0_build_94 s14 rfl ((fBd_o f2 (by omega)).trans q12) (by omega) ?_
    refine z_lload dX0_build_97 rfl ?_
    try dsimp only [zs0, zsI, zsP, zsN, zsJ, zsS, zst2, Nat.reduceAdd]
    refine z_callV mlX0_113 dX0_build_99 so (av := [_]) rfl rfl (Nat.le_of_ble_eq_true rfl) (c_kfind _ 15 ka kcap so ska skb (by omega) ((fBd_o f2 (by omega)).trans k0) ((fBd_o f2 (by omega)).trans k1) e he ((fBd_o f2 (by omega)).trans k2) hs2 F cc hK2 hcc (tKy T s)) (Nat.le_refl _) (Nat.le_refl _) (Nat.le_refl _) (Nat.le_refl _) ?_
    rintro _ _ ⟨rfl, rfl⟩
    refine z_istore dX0_build_102 (Nat.le_of_ble_eq_true rfl) ?_
    refine z_iload dX0_build_104 rfl ?_
    try dsimp only [zs0, zsI, zsP, zsN, zsJ, zsS, zst2, Nat.reduceAdd]
    refine z_if_ge (tgt := 123) dX0_build_106 rfl (fun h106 => ?_) (fun h106 => ?_)
    · obtain ⟨hB3, i0, e0, hi0⟩ := bS_old hw hl hfR hfu hB (by omega)
      rw [← htk] at hB3
      rw [e0]
      exact l_bd123 d s14 s22 s23 s24 q22 q23 q24 q12 t t7 sT pT T hw hl hfl hc hF hod hV p a cap sp sa sb ρ hTb hok hL hLb hρ so ka kcap ska skb k0 k1 e he k2 hs2 hLe b bcap sB qB_ hLc dj0 q14 hx i s hs i0 D F cc (by omega) f2 hB3 hK2 hD2 hS2 hi0 (tKy T s) (fun m' z1 z2 z3 z4 => ih (i + 1) D F cc m' (by omega) (by omega) z1 hB3 z2 z3 z4 hP)
    · refine z_aload_n dX0_build_109 rfl ?_
      refine z_gIv 18 rfl flX0_108 dX0_build_110 s14 rfl hD2 ?_
      refine z_istore dX0_build_113 (Nat.le_of_ble_eq_true rfl) ?_
      refine z_aload_n dX0_build_115 rfl ?_
      refine z_aload_n dX0_build_116 rfl ?_
      refine z_lload dX0_build_117 rfl ?_
      refine z_iload_n dX0_build_119 rfl ?_
      try dsimp only [zs0, zsI, zsP, zsN, zsJ, zsS, zst2, Nat.reduceAdd]
      refine z_callV mlX0_117 dX0_build_120 s14 (av := [_, _, _]) rfl rfl (Nat.le_of_ble_eq_true rfl) (c_open d s14 s22 s23 s24 ((fBd_o f2 (by omega)).trans q22) ((fBd_o f2 (by omega)).trans q23) ((fBd_o f2 (by omega)).trans q24) t t7 sT (ptT_in pT ht2) T.1 hw (cTh_in pT (wfD_of hw) hc ht2) (tH T) (by unfold tH; omega) ((fBd_o f2 (by omega)).trans q14) (pm_all (P := fun v => cCodeOk T.1 v = true) (pm_sy hpm) (fun i i0 i1 => lf_ok hw hl hfu i0 i1)) so ka kcap ska skb (by omega) (by omega) (by omega) ((fBd_o f2 (by omega)).trans q12) ((fBd_o f2 (by omega)).trans k0) ((fBd_o f2 (by omega)).trans k1) e he ((fBd_o f2 (by omega)).trans k2) hs2 (D.length : Int) (by omega) hD2 (allCh T.1) (xC_f hx (fBd_o f2 (by omega)) (fun x => fBd_o f2 (by omega))) (allCh_len hV) (fun ch h => (allCh_in hw h).2) ((tPairs T).map (tKy T)) (by rw [List.length_map]; omega) (fun ch h => keys_in hw hfl (by omega) hmem ((imgs_orb hw hl hfu hpm _).mp (List.mem_map.mpr ⟨ch, h, rfl⟩))) (tKy T s) b bcap sB (qDg_f qB_ (fun x x0 x1 => fBd_o f2 (by omega))) (by omega) (by omega) (by omega) F cc hK2 (bS_keys hw hfl (by omega) hB) (i : Int)) (Nat.le_refl _) (Nat.le_refl _) (Nat.le_refl _) (Nat.le_refl _) ?_
      rintro _ m5 ⟨rfl, m4, g4, ⟨c4, h4⟩, rfl⟩
      rw [show (allCh T.1).map (fun ch => sV T.1 (m2 23) (tH T) (chP ch)) = imgs T (m2 23) from rfl] at h4 ⊢
      rw [lM_nm hw hl hfu (imgs_orb hw hl hfu hpm), imgs_pm hpm] at *
      obtain ⟨o1, o2, o3, o4, o5, o6, o7⟩ := op_at (m4 := m4) (b := b) (sz := (D.length : Int)) (v0 := tName T s) (v3 := (i : Int)) (v4 := sSame (tKy T s) (imgs T (rowF T s))) (y := (D.length : Int) + 1) (by omega)
      have hFn : F (tKy T s) = -1 := by have := hK2.2.2.2.1 (tKy T s); omega
      exact l_bd123 d s14 s22 s23 s24 q22 q23 q24 q12 t t7 sT pT T hw hl hfl hc hF hod hV p a cap sp sa sb ρ hTb hok hL hLb hρ so ka kcap ska skb k0 k1 e he k2 hs2 hLe b bcap sB qB_ hLc dj0 q14 hx i s hs D.length (D ++ [tName T s]) (pA (D.length : Int) F (imgs T (rowF T s))) c4 (by rw [List.length_append]; simp only [List.length_cons, List.length_nil]; omega) (zfr_op f2 g4) (by rw [htk]; exact bS_new hw hl hfR hfu hB hFn (imgs_orb hw hl hfu pm_rf)) (kT_fr h4 (funext fun x => o1 _ x (by omega) (by omega)) (funext fun x => o1 _ x (by omega) (by omega))) (by rw [o7, List.length_append]; rfl) (dS_new hB hS2 hs (bS_fresh hw hl hfR hfu hB hFn) (fun x j x0 x1 hh => (o1 _ j (by omega) (by omega)).trans (fOp_o g4 (by omega))) o2 o3 o4 o5 o6) (by rw [List.getElem?_append_right (Nat.le_refl _), Nat.sub_self]; rfl) (tKy T s) (fun m' z1 z2 z3 z4 => ih (i + 1) (D ++ [tName T s]) _ _ m' (by omega) (by rw [List.length_append]; simp only [List.length_cons, List.length_nil]; omega) z1 (by rw [htk]; exact bS_new hw hl hfR hfu hB hFn (imgs_orb hw hl hfu pm_rf)) z2 z3 z4 hP)
