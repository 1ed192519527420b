def fN2 : List (Int × Option Int) := [(a_codes, none), (aM, some f_lines), (a_places, none), (a_moved, none), (aM, some f_leastName), (aM, some f_sameNames), (aM, some f_wantedName), (a_least, none), (a_names, none)]
theorem ptM_2 {m m1 : zM} (h : ptM m) (b : zfr fN2 m m1) : ptM m1 := fun q hq => by
  have hq2 : ∀ q ∈ mPt, fN2.all (fun r => r.1 != aM || (r.2 != none && r.2 != some q.1)) = true := by decide
  rw [zfr_at b (hq2 q hq)]
  exact h q hq
theorem l_laysNames_2 (d : Nat) {E : zE} {m : zM} {P : Option zV → zM → Prop} (hE : shM E) (hm : ptM m)  (hw : wfC (m a_c)) (hn0 : 0 ≤ m aM f_letters ∧ m aM f_letters ≤ 12) (hkn : 0 ≤ m aM f_keys ∧ m aM f_keys ≤ 10395) (hg : ∀ t : Int, 0 ≤ t → t < m aM f_keys → ∃ g, m a_sorted t = sPk g (m aM f_letters / 2).toNat ∧ ∀ i : Int, 0 ≤ i → i < (m aM f_letters / 2).toNat → 0 ≤ g i ∧ g i / 100 < m a_c 2 ∧ g i / 10 % 10 < m a_c 2 ∧ g i < 800) : ∀ (j : Nat) (k : Nat) (m1 : zM), (ptM m1) → ((k : Int) + j = m aM f_keys) → (zfr fN2 m m1) → ((∀ x : Int, 0 ≤ x → x < 8 → 0 ≤ m1 a_places x ∧ m1 a_places x < 8)) → (∀ t : Int, 0 ≤ t → t < k → m1 a_least t = (sNM (m a_c) (m aM f_letters / 2).toNat (m a_sorted t)) ∧ m1 a_names t = (sNM (m a_c) (m aM f_letters / 2).toNat (m a_sorted t))) → (∀ m2, ptM m2 → zfr fN2 m m2 → (∀ x : Int, 0 ≤ x → x < 8 → 0 ≤ m2 a_places x ∧ m2 a_places x < 8) → (∀ t : Int, 0 ≤ t → t < m aM f_keys → m2 a_least t = (sNM (m a_c) (m aM f_letters / 2).toNat (m a_sorted t)) ∧ m2 a_names t = (sNM (m a_c) (m aM f_letters / 2).toNat (m a_sorted t))) → zA zX12_laysNames (d + 13) E E P 150 [zP aM, zN] [] m2 E) → zA zX12_laysNames (d + 13) E E P 95 [zP aM, zI (k : Nat)] [] m1 E := by
  intro j
  induction j with
  | zero =>
    intro k m1 hm1 hk2 hf hpl hq hP
    have ec : m1 a_c = m a_c := zfr_cell hf (by decide)
    have es : m1 a_sorted = m a_sorted := zfr_cell hf (by decide)
    have en : m1 aM f_letters = m aM f_letters := zfr_at hf (by decide)
    have eK : m1 aM f_keys = m aM f_keys := zfr_at hf (by decide)
    have hb3 := hw.2.2.1
    refine z_iload_n dX12_laysNames_95 rfl ?_
    refine z_aload_n dX12_laysNames_96 rfl ?_
    refine z_gIv f_keys rfl flX12_255 dX12_laysNames_97 (sh_M hE) rfl eK ?_
    refine z_icmp_ge (tgt := 150) dX12_laysNames_100 rfl (fun h100 => ?_) (fun h => absurd (by omega) h)
    refine zA_wk [_, zN] (by exact ⟨Or.inr rfl, Or.inl rfl, trivial⟩) ?_
    exact hP m1 hm1 hf hpl (by rw [show m aM f_keys = (k : Int) by omega]; exact hq)
  | succ j ih =>
    intro k m1 hm1 hk2 hf hpl hq hP
    have ec : m1 a_c = m a_c := zfr_cell hf (by decide)
    have es : m1 a_sorted = m a_sorted := zfr_cell hf (by decide)
    have en : m1 aM f_letters = m aM f_letters := zfr_at hf (by decide)
    have eK : m1 aM f_keys = m aM f_keys := zfr_at hf (by decide)
    have hb3 := hw.2.2.1
    obtain ⟨g, hg1, hg2⟩ := hg k (by omega) (by omega)
    refine z_iload_n dX12_laysNames_95 rfl ?_
    refine z_aload_n dX12_laysNames_96 rfl ?_
    refine z_gIv f_keys rfl flX12_255 dX12_laysNames_97 (sh_M hE) rfl eK ?_
    refine z_icmp_ge (tgt := 150) dX12_laysNames_100 rfl (fun h => absurd h (by omega)) (fun h100 => ?_)
    refine z_aload_n dX12_laysNames_103 rfl ?_
    refine z_aload_n dX12_laysNames_104 rfl ?_
    refine z_gP 26 rfl (r := a_sorted) flX12_57 dX12_laysNames_105 (sh_M hE) rfl (pt_sorted hm1) (by decide) ?_
    refine z_iload_n dX12_laysNames_108 rfl ?_
    refine z_lalv dX12_laysNames_109 (sh_sorted hE) (by omega) (by omega) ((congrFun es _).trans hg1) ?_
    refine z_aload_n dX12_laysNames_110 rfl ?_
    refine z_gIv f_letters rfl flX12_124 dX12_laysNames_111 (sh_M hE) rfl en ?_
    refine z_iconst dX12_laysNames_114 (by decide) ?_
    refine z_div dX12_laysNames_115 (by omega) (by omega) ?_
    rw [show m aM f_letters / 2 = (((m aM f_letters / 2).toNat : Nat) : Int) by omega]
    refine z_callV mlX12_258 dX12_laysNames_116 (sh_M hE) (av := [_, _]) rfl rfl (Nat.le_of_ble_eq_true rfl) (r_unpacks _ hE hm1 g (m aM f_letters / 2).toNat (by omega) (fun i q1 q2 => by have := hg2 i q1 q2; omega)) (Nat.le_refl _) (Nat.le_refl _) (Nat.le_refl _) (Nat.le_refl _) ?_
    rintro _ m2 ⟨rfl, u1, u2, u3⟩
    have hm2 : ptM m2 := ptM_2 hm1 (zfr_sub u1 (by decide))
    have ec2 : m2 a_c = m a_c := (zfr_cell u1 (by decide)).trans ec
    have hpl2 : (∀ x : Int, 0 ≤ x → x < 8 → 0 ≤ m2 a_places x ∧ m2 a_places x < 8) := by rw [zfr_cell (a := a_places) u1 (by decide)]; exact hpl
    refine z_aload_n dX12_laysNames_119 rfl ?_
    refine z_gP 27 rfl (r := a_least) flX12_60 dX12_laysNames_120 (sh_M hE) rfl (pt_least hm2) (by decide) ?_
    refine z_iload_n dX12_laysNames_123 rfl ?_
    refine z_aload_n dX12_laysNames_124 rfl ?_
    refine z_ldc2 dX12_laysNames_125 kcX12_241 (by decide) ?_
    refine z_callV mlX12_262 dX12_laysNames_128 (sh_M hE) (av := [_]) rfl rfl (Nat.le_of_ble_eq_true rfl) (r_leastOf d hE hm2 (by rw [ec2]; exact hw) (by rw [u2]; omega) (by rw [u2, ec2]; exact fun i q1 q2 => by have h1 := hg2 i q1 q2; rw [u3 i q1 q2]; exact ⟨h1.1, h1.2.1, h1.2.2.1⟩) hpl2 (-1)) (Nat.le_refl _) (Nat.le_refl _) (Nat.le_refl _) (Nat.le_refl _) ?_
    have hV : sV (m2 a_c) (m2 a_codes) (m2 aM f_lines).toNat = sV (m a_c) (uF (m a_sorted k) (m aM f_letters / 2).toNat) (m aM f_letters / 2).toNat := by
      rw [ec2, u2, hg1, Int.toNat_natCast]
      exact sV_co (fun i q1 q2 => by rw [u3 i q1 q2, uF_eq (fun i q1 q2 => by have := hg2 i q1 q2; omega) q1 q2])
    rw [hV, ec2, show sLeast (-1) (sPlc (m a_c 2).toNat (cAlike (m a_c)) (sV (m a_c) (uF (m a_sorted k) (m aM f_letters / 2).toNat) (m aM f_letters / 2).toNat) (m a_c 2).toNat 0 0 (fun _ => 0)) = (sNM (m a_c) (m aM f_letters / 2).toNat (m a_sorted k)) from rfl]
    rintro _ m3 ⟨rfl, l1, l2, l3⟩
    have hm3 : ptM m3 := ptM_2 hm2 (zfr_sub l1 (by decide))
    refine z_last dX12_laysNames_131 (sh_least hE) (by omega) (by omega) ?_
    refine z_aload_n dX12_laysNames_132 rfl ?_
    refine z_gP 28 rfl (r := a_names) flX12_63 dX12_laysNames_133 (sh_M hE) rfl (pt_names (ptM_a hm3 (by decide))) (by decide) ?_
    refine z_iload_n dX12_laysNames_136 rfl ?_
    refine z_aload_n dX12_laysNames_137 rfl ?_
    refine z_gP 27 rfl (r := a_least) flX12_60 dX12_laysNames_138 (sh_M hE) rfl (pt_least (ptM_a hm3 (by decide))) (by decide) ?_
    refine z_iload_n dX12_laysNames_141 rfl ?_
    refine z_lalv dX12_laysNames_142 (sh_least hE) (by omega) (by omega) zu_s ?_
    refine z_last dX12_laysNames_143 (sh_names hE) (by omega) (by omega) ?_
    refine z_inc dX12_laysNames_144 rfl (by omega) ?_
    refine z_goto (tgt := 95) dX12_laysNames_147 rfl ?_
    try dsimp only [zs0, zsI, zsP, zsN, zsJ, zsS, zst2, Nat.reduceAdd]
    rw [show (k : Int) + 1 = ((k + 1 : Nat) : Int) by omega]
    refine ih (k + 1) _ (ptM_a (ptM_a hm3 (by decide)) (by decide)) (by omega) (zfr_ua (zfr_ua (zfr_tr hf (zfr_tr (zfr_sub u1 (by decide)) (zfr_sub l1 (by decide)))) (by decide)) (by decide)) (fun x q1 q2 => by rw [zu_a (by decide), zu_a (by decide)]; exact l3 x q1 q2) (fun t q0 q1 => ?_) hP
    rw [zu_a (show a_least ≠ a_names by decide)]
    by_cases e : t = k
    · rw [e, zu_s, zu_s]
      exact ⟨rfl, rfl⟩
    · rw [zu_j e, zu_j e, zu_a (by decide), congrFun (zfr_cell (a := a_least) l1 (by decide)) _, congrFun (zfr_cell (a := a_least) u1 (by decide)) _, congrFun (zfr_cell (a := a_names) l1 (by decide)) _, congrFun (zfr_cell (a := a_names) u1 (by decide)) _]
      exact hq t q0 (by omega)

theorem l_laysNames_3 (d : Nat) {E : zE} {m : zM} {P : Option zV → zM → Prop} (hE : shM E) (hm : ptM m)  (hla : 0 ≤ m aM f_laid ∧ m aM f_laid ≤ 10395) (K D : Nat) (hK : m aM f_keys = (K : Int)) (hK2 : K ≤ 10395) (hD : m aM f_diagrams = (D : Int)) (hD2 : D ≤ 10395) (hs1 : sInc (m a_sorted) K) (hs2 : sInc (m a_names) D) (hin : ∀ t : Int, 0 ≤ t → t < m aM f_laid → ∃ x : Int, 0 ≤ x ∧ x < K ∧ m a_sorted x = m a_key t) (hle : ∀ x : Int, 0 ≤ x → x < K → m a_least x = sNM (m a_c) (m aM f_letters / 2).toNat (m a_sorted x)) (hnm : ∀ x : Int, 0 ≤ x → x < K → ∃ y : Int, 0 ≤ y ∧ y < D ∧ m a_names y = m a_least x) : ∀ (j : Nat) (k : Nat) (m1 : zM), (ptM m1) → ((k : Int) + j = m aM f_laid) → (zfr [(a_diagramOf, none)] m m1) → (∀ t : Int, 0 ≤ t → t < k → 0 ≤ m1 a_diagramOf t ∧ m1 a_diagramOf t < m aM f_diagrams ∧ m a_names (m1 a_diagramOf t) = sNM (m a_c) (m aM f_letters / 2).toNat (m a_key t)) → (∀ m2, zfr [(a_diagramOf, none)] m m2 → (∀ t : Int, 0 ≤ t → t < m aM f_laid → 0 ≤ m2 a_diagramOf t ∧ m2 a_diagramOf t < m aM f_diagrams ∧ m a_names (m2 a_diagramOf t) = sNM (m a_c) (m aM f_letters / 2).toNat (m a_key t)) → P none m2) → zA zX12_laysNames (d + 13) E E P 167 [zP aM, zI (k : Nat)] [] m1 E := by
  intro j
  induction j with
  | zero =>
    intro k m1 hm1 hk2 hf hq hP
    refine z_iload_n dX12_laysNames_167 rfl ?_
    refine z_aload_n dX12_laysNames_168 rfl ?_
    refine z_gIv f_laid rfl flX12_172 dX12_laysNames_169 (sh_M hE) rfl (zfr_at hf (by decide)) ?_
    refine z_icmp_ge (tgt := 220) dX12_laysNames_172 rfl (fun h172 => ?_) (fun h => absurd (by omega) h)
    refine z_vret dX12_laysNames_220 rfl rfl ?_
    exact hP m1 hf (by rw [show m aM f_laid = (k : Int) by omega]; exact hq)
  | succ j ih =>
    intro k m1 hm1 hk2 hf hq hP
    refine z_iload_n dX12_laysNames_167 rfl ?_
    refine z_aload_n dX12_laysNames_168 rfl ?_
    refine z_gIv f_laid rfl flX12_172 dX12_laysNames_169 (sh_M hE) rfl (zfr_at hf (by decide)) ?_
    refine z_icmp_ge (tgt := 220) dX12_laysNames_172 rfl (fun h => absurd h (by omega)) (fun h172 => ?_)
    refine z_aload_n dX12_laysNames_175 rfl ?_
    refine z_gP 11 rfl (r := a_diagramOf) flX12_38 dX12_laysNames_176 (sh_M hE) rfl (pt_diagramOf hm1) (by decide) ?_
    refine z_iload_n dX12_laysNames_179 rfl ?_
    refine z_aload_n dX12_laysNames_180 rfl ?_
    refine z_gP 28 rfl (r := a_names) flX12_63 dX12_laysNames_181 (sh_M hE) rfl (pt_names hm1) (by decide) ?_
    refine z_aload_n dX12_laysNames_184 rfl ?_
    refine z_gIv f_diagrams rfl flX12_266 dX12_laysNames_185 (sh_M hE) rfl ((zfr_at hf (by decide)).trans hD) ?_
    refine z_aload_n dX12_laysNames_188 rfl ?_
    refine z_gP 27 rfl (r := a_least) flX12_60 dX12_laysNames_189 (sh_M hE) rfl (pt_least hm1) (by decide) ?_
    refine z_aload_n dX12_laysNames_192 rfl ?_
    refine z_gP 26 rfl (r := a_sorted) flX12_57 dX12_laysNames_193 (sh_M hE) rfl (pt_sorted hm1) (by decide) ?_
    refine z_aload_n dX12_laysNames_196 rfl ?_
    refine z_gIv f_keys rfl flX12_255 dX12_laysNames_197 (sh_M hE) rfl ((zfr_at hf (by decide)).trans hK) ?_
    refine z_aload_n dX12_laysNames_200 rfl ?_
    refine z_gP 25 rfl (r := a_key) flX12_53 dX12_laysNames_201 (sh_M hE) rfl (pt_key hm1) (by decide) ?_
    refine z_iload_n dX12_laysNames_204 rfl ?_
    refine z_lalv dX12_laysNames_205 (sh_key hE) (by omega) (by omega) (congrFun (zfr_cell hf (by decide)) _) ?_
    refine z_callS mlX12_269 dX12_laysNames_206 (av := [_, _, _]) rfl rfl (Nat.le_of_ble_eq_true rfl) (r_placeIn _ a_sorted 10395 (sh_sorted hE) K (by omega) (by omega) (m a_key k) (by rw [zfr_cell (a := a_sorted) hf (by decide)]; exact fun i j q1 q2 q3 => sInc_le hs1 q1 q2 q3)) (Nat.le_refl _) (Nat.le_refl _) (Nat.le_refl _) (Nat.le_refl _) ?_
    rw [zfr_cell (a := a_sorted) hf (by decide)]
    rintro _ _ ⟨x, rfl, rfl, hx⟩
    have hx1 : 0 ≤ x ∧ x < K ∧ m a_sorted x = m a_key k := by
      rcases hx with hx | hx
      · obtain ⟨z, z1, z2, z3⟩ := hin k (by omega) (by omega)
        exact absurd z3 (hx.2 z z1 z2)
      · exact hx
    refine z_lalv dX12_laysNames_209 (sh_least hE) (by omega) (by omega) (congrFun (zfr_cell hf (by decide)) _) ?_
    refine z_callS mlX12_269 dX12_laysNames_210 (av := [_, _, _]) rfl rfl (Nat.le_of_ble_eq_true rfl) (r_placeIn _ a_names 10395 (sh_names hE) D (by omega) (by omega) (m a_least x) (by rw [zfr_cell (a := a_names) hf (by decide)]; exact fun i j q1 q2 q3 => sInc_le hs2 q1 q2 q3)) (Nat.le_refl _) (Nat.le_refl _) (Nat.le_refl _) (Nat.le_refl _) ?_
    rw [zfr_cell (a := a_names) hf (by decide)]
    rintro _ _ ⟨y, rfl, rfl, hy⟩
    have hy1 : 0 ≤ y ∧ y < D ∧ m a_names y = m a_least x := by
      rcases hy with hy | hy
      · obtain ⟨z, z1, z2, z3⟩ := hnm x hx1.1 hx1.2.1
        exact absurd z3 (hy.2 z z1 z2)
      · exact hy
    refine z_iast dX12_laysNames_213 (sh_diagramOf hE) (by omega) (by omega) ?_
    refine z_inc dX12_laysNames_214 rfl (by omega) ?_
    refine z_goto (tgt := 167) dX12_laysNames_217 rfl ?_
    try dsimp only [zs0, zsI, zsP, zsN, zsJ, zsS, zst2, Nat.reduceAdd]
    rw [show (k : Int) + 1 = ((k + 1 : Nat) : Int) by omega]
    refine ih (k + 1) _ (ptM_a hm1 (by decide)) (by omega) (zfr_ua hf (by decide)) (fun t q0 q1 => ?_) hP
    by_cases e : t = k
    · rw [e, zu_s]
      exact ⟨hy1.1, by omega, by rw [hy1.2.2, hle x hx1.1 hx1.2.1, hx1.2.2]⟩
    · rw [zu_j e]; exact hq t q0 (by omega)
