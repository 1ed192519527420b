theorem tOf_0 {T : zT} {dd : Int} : tOf T dd 0 = lS (fun r => zb (tName T r = tNm T dd)) (tPairs T) := rfl
theorem tOf_1 {T : zT} {dd : Int} : tOf T dd 1 = lS (fun r => if tName T r = tNm T dd then tSign T r else 0) (tPairs T) := rfl
theorem tOf_2 {T : zT} {dd : Int} : tOf T dd 2 = zl2i (zldiv (sOrd T.1 (T.1 2).toNat 0 0 1) (lS (fun r => zb (tName T r = tNm T dd)) (tPairs T))) := rfl
theorem tOf_3 {T : zT} {dd : Int} : tOf T dd 3 = ((paV T (tNm T dd) : Nat) : Int) := rfl
theorem tOf_4 {T : zT} {dd : Int} : tOf T dd 4 = zb (tLost T.1 (tH T) (uF (tNm T dd) (tH T)) (tAll T.1) = 0) := rfl
theorem tOf_5 {T : zT} {dd : Int} : tOf T dd 5 = tLoops T.1 (tH T) (uF (tNm T dd) (tH T)) := rfl
theorem tOf_6 {T : zT} {dd : Int} : tOf T dd 6 = tBridges T.1 (tH T) (uF (tNm T dd) (tH T)) := rfl
theorem tOf_7 {T : zT} {dd : Int} : tOf T dd 7 = tRings (tH T) (uF (tNm T dd) (tH T)) := rfl
theorem tOf_8 {T : zT} {dd : Int} : tOf T dd 8 = fiV T (tNm T dd) := rfl
theorem tOf_9 {T : zT} {dd : Int} : tOf T dd 9 = tMo (tH T) (uF (tNm T dd) (tH T)) := rfl
theorem tOf_10 {T : zT} {dd : Int} : tOf T dd 10 = fxV T (tNm T dd) := rfl
theorem lk_1 {T : zT} {v : Int} (h : lkV T v = 1) : zb (tLost T.1 (tH T) (uF v (tH T)) (tAll T.1) = 0) = 1 := by
  unfold lkV at h
  split at h
  · exact zb_t (by assumption)
  · omega
theorem lk_0 {T : zT} {v : Int} (h : ¬ lkV T v = 1) : zb (tLost T.1 (tH T) (uF v (tH T)) (tAll T.1) = 0) = 0 := by
  unfold lkV at h
  split at h
  · exact absurd rfl h
  · exact zb_f (by assumption)
theorem sym_is {a x : Int} (h : 0 ≤ a ∧ a ≤ 2147483647) (hx : 1 ≤ x ∧ x ≤ 10395) : zl2i (zldiv a x) = if x = 0 then 0 else a / x := by
  rw [if_neg (by omega)]
  have e : zldiv a x = a / x := by
    unfold zldiv
    rw [Int64.toInt_div, z64_toInt ⟨by omega, by omega⟩, z64_toInt ⟨by omega, by omega⟩, Int.tdiv_eq_ediv_of_nonneg h.1]
    have h2 := Int.ediv_nonneg h.1 (show 0 ≤ x by omega)
    have h3 := Int.ediv_le_self x h.1
    exact Int.bmod_eq_of_le (by omega) (by omega)
  have h1 := Int.ediv_le_self x h.1
  have h2 := Int.ediv_nonneg h.1 (show 0 ≤ x by omega)
  rw [e, zl2i_id (by omega)]
def ffr (x : Int) : Int := if x = 0 then 3 else if x = 4 then 2 else x + 4
theorem ffr_rg {x : Int} (h : 0 ≤ x ∧ x ≤ 4) : 0 ≤ ffr x ∧ ffr x ≤ 10 := by unfold ffr; split <;> (try split) <;> omega
theorem look_0 {x : Int} (h0 : ¬ x = 0) (h4 : ¬ x = 4) : Op.lookupswitch.offset (#[((0 : Int), (27 : Int)), (4, 29)] : Array (Int × Int)).toList 31 x = 31 := by
  show (if (0 : Int) = x then (27 : Int) else if (4 : Int) = x then 29 else 31) = 31
  rw [if_neg (fun e => h0 e.symm), if_neg (fun e => h4 e.symm)]
noncomputable def hLP (T : zT) (D : List Int) (p : Int) : Int := if lkV T (lf D p) = 1 then lS (fun r => zb (tName T r = lf D p)) (tPairs T) else 0
noncomputable def hCP (T : zT) (D : List Int) (p : Int) : Int := if ((paV T (lf D p) : Nat) : Int) = 1 then lS (fun r => zb (tName T r = lf D p)) (tPairs T) else 0
noncomputable def hLD (T : zT) (D : List Int) (p : Int) : Int := if lkV T (lf D p) = 1 then 1 else 0
theorem lf_at {D : List Int} {i : Nat} {v : Int} (h : D[i]? = some v) : lf D (i : Int) = v := by
  unfold lf
  rw [Int.toNat_natCast, List.getD_eq_getElem?_getD, h]
  rfl
theorem dM_at {m : zM} {b : Int} {T : zT} {D : List Int} (h : dM m b T D) {i x : Nat} (hx : x < D.length) (e : m (b + 5) (x : Int) = (i : Int)) : lf D (i : Int) = tNm T (x : Int) := by
  obtain ⟨j, j1, j2, j3, j4⟩ := (dG_ord h.1).2 x hx
  have : j = i := by omega
  rw [this] at j3
  exact lf_at j3
theorem gd_0 {T : zT} {x : Int} : (tGd T 0 x = true) ↔ lkV T (tNm T x) = 1 := by
  unfold tGd lkV
  rw [decide_eq_true_eq, if_pos rfl]
  show tLost T.1 (tH T) (uF (tNm T x) (tH T)) (tAll T.1) = 0 ↔ _
  split
  · exact ⟨fun _ => rfl, fun _ => by assumption⟩
  · exact ⟨fun z => absurd z (by assumption), fun z => absurd z (by decide)⟩
theorem gd_1 {T : zT} {x : Int} : (tGd T 1 x = true) ↔ ((paV T (tNm T x) : Nat) : Int) = 1 := by
  unfold tGd paV
  rw [decide_eq_true_eq, if_neg (by decide)]
  show tParts (tH T) (uF (tNm T x) (tH T)) (-1) (tAll T.1) = 1 ↔ _
  omega
theorem sum_linkedPairings {m : zM} {b : Int} {T : zT} {D : List Int} (h : dM m b T D) : zsum (hLP T D) D.length 0 = tMany T 0 0 := dG_sum h.1 (hLP T D) _ (fun i x i1 x1 e => by
  unfold hLP
  rw [dM_at h x1 e]
  by_cases z : lkV T (tNm T (x : Int)) = 1
  · rw [if_pos z, if_pos (gd_0.mpr z)]; rfl
  · rw [if_neg z, if_neg (fun y => z (gd_0.mp y))])
theorem sum_connectedPairings {m : zM} {b : Int} {T : zT} {D : List Int} (h : dM m b T D) : zsum (hCP T D) D.length 0 = tMany T 1 0 := dG_sum h.1 (hCP T D) _ (fun i x i1 x1 e => by
  unfold hCP
  rw [dM_at h x1 e]
  by_cases z : ((paV T (tNm T (x : Int)) : Nat) : Int) = 1
  · rw [if_pos z, if_pos (gd_1.mpr z)]; rfl
  · rw [if_neg z, if_neg (fun y => z (gd_1.mp y))])
theorem sum_linkedDiagrams {m : zM} {b : Int} {T : zT} {D : List Int} (h : dM m b T D) : zsum (hLD T D) D.length 0 = tMany T 0 1 := dG_sum h.1 (hLD T D) _ (fun i x i1 x1 e => by
  unfold hLD
  rw [dM_at h x1 e]
  by_cases z : lkV T (tNm T (x : Int)) = 1
  · rw [if_pos z, if_pos (gd_0.mpr z)]; rfl
  · rw [if_neg z, if_neg (fun y => z (gd_0.mp y))])
theorem c_fact (d : Nat) {E : zE} {m : zM} (s14 : E.1 14 = (6, 20)) (T : zT) (hw : wfC T.1) (hl : wfL T.1 T.2.1 T.2.2.1 T.2.2.2) (hV : zsum (fun p => zb (T.1 (32 + 9 * p + 1) = 1)) (T.1 2).toNat 0 ≤ 5) (b bcap : Int) (sB : shDg E b bcap) (b24 : 24 < b) (hLc : ((tPairs T).length : Int) ≤ bcap) (hLb : (tPairs T).length ≤ 10395) (sG : shG E 18) (D : List Int) (hM : dM m b T D) (dd : Nat) (hdd : dd < D.length) (w : Int) (hw0 : 0 ≤ w ∧ w ≤ 10) (hO : sOrd T.1 (T.1 2).toNat 0 0 1 = oTh T.1 (T.1 2).toNat) (hO2 : 0 ≤ oTh T.1 (T.1 2).toNat ∧ oTh T.1 (T.1 2).toNat ≤ 2147483647) : zR zX0_fact (d + 4) [zP 14, zI (dd : Nat), zI w] m E E (fun r m' => r = some (zI (tOf T (dd : Int) w)) ∧ zfr (fSh b) m m' ∧ dM m' b T D) := by
  obtain ⟨i, o1, hid0, hv, o4⟩ := (dG_ord hM.1).2 dd hdd
  obtain ⟨v, evn⟩ : ∃ v, v = tNm T (dd : Int) := ⟨_, rfl⟩
  rw [← evn] at hv
  have hmem : ∃ r ∈ tPairs T, tName T r = v := (hM.1.1.2 v).mp (List.mem_of_getElem? hv)
  have hid : i < D.length := (List.getElem?_eq_some_iff.mp hv).1
  have hDl := hM.1.2.2.2.2.1
  have hfx := fxV_rg hw hl hV hmem
  obtain ⟨hr1, hr2, hr3, hr4, hr5, hr6, hr7, hr8⟩ := shV_rg hw hl hmem
  obtain ⟨fx, efx⟩ : ∃ fx : Nat, fxV T v = (fx : Int) := Int.eq_ofNat_of_zero_le hfx.1
  have hn := hl.1
  have hH6 : tH T ≤ 6 := by unfold tH; omega
  have hc2 := hw.2.2.1
  have hq := hM.1.2.1 i v hv
  have hcn := lS_pos (f := fun r => zb (tName T r = v)) (fun r => by have := zb01 (tName T r = v); omega) (l := tPairs T) (x := hmem.choose) hmem.choose_spec.1
  rw [show zb (tName T hmem.choose = v) = 1 from zb_t hmem.choose_spec.2] at hcn
  have hcb := (lS_bd (f := fun r => zb (tName T r = v)) (l := tPairs T) (fun r => by have := zb01 (tName T r = v); omega)).2
  have htr : zand (m (b + 4) (i : Int)) 127 = (fx : Int) := by
    rcases hq.2.2.2.2 with z | z
    · rw [z, efx]; exact (ex_fx (T := T) (v := v) (by omega) hr1 hr2 hr3 hr4 hr5).2
    · rw [z, efx]; exact (ex_fx (T := T) (v := v) (by omega) hr1 hr2 hr3 hr4 hr5).1
  refine zR_go [zP 14, zI (dd : Nat), zI w, zN] (by decide +kernel) (Nat.le_of_ble_eq_true rfl) rfl rfl ?_
  refine z_aload_n dX0_fact_0 rfl ?_
  refine z_gP 10 rfl (r := b + 5) flX0_51 dX0_fact_1 s14 rfl hM.2.1.2.2.2.2.2.1 (by omega) ?_
  refine z_iload_n dX0_fact_4 rfl ?_
  refine z_ialv dX0_fact_5 sB.2.2.2.2.2.1 (by omega) (by omega) o1 ?_
  refine z_ist 3 dX0_fact_6 rfl (Nat.le_of_ble_eq_true rfl) ?_
  refine z_iload_n dX0_fact_7 rfl ?_
  try dsimp only [zs0, zsI, zsP, zsN, zsJ, zsS, zst2, Nat.reduceAdd]
  by_cases hs0 : w = 0
  · refine z_tabIn (tgt := 64) dX0_fact_8 (by omega) (by omega) (by rw [hs0]; rfl) rfl ?_
    refine z_aload_n dX0_fact_64 rfl ?_
    refine z_gP 6 rfl (r := b + 1) flX0_39 dX0_fact_65 s14 rfl hM.2.1.2.1 (by omega) ?_
    refine z_iload_n dX0_fact_68 rfl ?_
    refine z_ialv dX0_fact_69 sB.2.1 (by omega) (by omega) hq.2.1 ?_
    refine z_iret dX0_fact_70 rfl rfl ?_
    exact ⟨by rw [hs0, tOf_0, ← evn], zfr_rf, hM⟩
  by_cases hs1 : w = 1
  · refine z_tabIn (tgt := 71) dX0_fact_8 (by omega) (by omega) (by rw [hs1]; rfl) rfl ?_
    refine z_aload_n dX0_fact_71 rfl ?_
    refine z_gP 7 rfl (r := b + 2) flX0_42 dX0_fact_72 s14 rfl hM.2.1.2.2.1 (by omega) ?_
    refine z_iload_n dX0_fact_75 rfl ?_
    refine z_ialv dX0_fact_76 sB.2.2.1 (by omega) (by omega) hq.2.2.1 ?_
    refine z_iret dX0_fact_77 rfl rfl ?_
    exact ⟨by rw [hs1, tOf_1, ← evn], zfr_rf, hM⟩
  by_cases hs2 : w = 2
  · refine z_tabIn (tgt := 78) dX0_fact_8 (by omega) (by omega) (by rw [hs2]; rfl) rfl ?_
    refine z_aload_n dX0_fact_78 rfl ?_
    refine z_iload_n dX0_fact_79 rfl ?_
    refine z_callV mlX0_181 dX0_fact_80 s14 (av := [_]) rfl rfl (Nat.le_of_ble_eq_true rfl) (c_symmetry _ 14 b bcap s14 sB (by omega) hM.2.1 (i : Int) (lS (fun r => zb (tName T r = v)) (tPairs T)) (oTh T.1 (T.1 2).toNat) (by omega) (by omega) hq.2.1 (by omega) hM.2.2.2.2.2.2.2 hO2.1) (Nat.le_refl _) (Nat.le_refl _) (Nat.le_refl _) (Nat.le_refl _) ?_
    rintro _ _ ⟨rfl, rfl⟩
    refine z_iret dX0_fact_83 rfl rfl ?_
    exact ⟨by rw [hs2, tOf_2, ← evn, hO, sym_is hO2 (by omega)], zfr_rf, hM⟩
  by_cases hs3 : w = 3
  · refine z_tabIn (tgt := 84) dX0_fact_8 (by omega) (by omega) (by rw [hs3]; rfl) rfl ?_
    refine z_aload_n dX0_fact_84 rfl ?_
    refine z_iload_n dX0_fact_85 rfl ?_
    refine z_callV mlX0_184 dX0_fact_86 s14 (av := [_]) rfl rfl (Nat.le_of_ble_eq_true rfl) (c_shapeOf _ s14 T hw hl hV b bcap sB b24 hLc hLb sG D hM i v hv) (Nat.le_refl _) (Nat.le_refl _) (Nat.le_refl _) (Nat.le_refl _) ?_
    rintro _ m1 ⟨rfl, f1, hM1⟩
    rw [efx, show (fx : Int) + ((shV T v : Nat) : Int) = ((fx + shV T v : Nat) : Int) from rfl]
    refine z_bipush dX0_fact_89 rfl (by decide) ?_
    refine z_ishr dX0_fact_91 ?_
    refine z_bipush dX0_fact_92 rfl (by decide) ?_
    refine z_iand dX0_fact_94 ?_
    rw [ex_pa (by omega) hr1 hr2 hr3 hr4 hr5]
    refine z_iret dX0_fact_95 rfl rfl ?_
    exact ⟨by rw [hs3, tOf_3, ← evn], f1, hM1⟩
  by_cases hs4 : w = 4
  · refine z_tabIn (tgt := 96) dX0_fact_8 (by omega) (by omega) (by rw [hs4]; rfl) rfl ?_
    refine z_aload_n dX0_fact_96 rfl ?_
    refine z_iload_n dX0_fact_97 rfl ?_
    refine z_callV mlX0_184 dX0_fact_98 s14 (av := [_]) rfl rfl (Nat.le_of_ble_eq_true rfl) (c_shapeOf _ s14 T hw hl hV b bcap sB b24 hLc hLb sG D hM i v hv) (Nat.le_refl _) (Nat.le_refl _) (Nat.le_refl _) (Nat.le_refl _) ?_
    rintro _ m1 ⟨rfl, f1, hM1⟩
    rw [efx, show (fx : Int) + ((shV T v : Nat) : Int) = ((fx + shV T v : Nat) : Int) from rfl]
    refine z_sipush dX0_fact_101 rfl (by decide) ?_
    refine z_iand dX0_fact_104 ?_
    rw [ex_lk (by omega) hr1 hr2 hr3 hr4 hr5]
    refine z_if_ne (tgt := 112) dX0_fact_105 rfl (fun h105 => ?_) (fun h105 => ?_)
    · refine z_iconst dX0_fact_112 (by decide) ?_
      refine z_iret dX0_fact_113 rfl rfl ?_
      exact ⟨by rw [hs4, tOf_4, ← evn, lk_1 (ex_l1 hr1 h105)], f1, hM1⟩
    · refine z_iconst dX0_fact_108 (by decide) ?_
      refine z_goto (tgt := 113) dX0_fact_109 rfl ?_
      refine z_iret dX0_fact_113 rfl rfl ?_
      exact ⟨by rw [hs4, tOf_4, ← evn, lk_0 (ex_l0 (by omega))], f1, hM1⟩
  by_cases hs5 : w = 5
  · refine z_tabIn (tgt := 114) dX0_fact_8 (by omega) (by omega) (by rw [hs5]; rfl) rfl ?_
    refine z_aload_n dX0_fact_114 rfl ?_
    refine z_iload_n dX0_fact_115 rfl ?_
    refine z_callV mlX0_184 dX0_fact_116 s14 (av := [_]) rfl rfl (Nat.le_of_ble_eq_true rfl) (c_shapeOf _ s14 T hw hl hV b bcap sB b24 hLc hLb sG D hM i v hv) (Nat.le_refl _) (Nat.le_refl _) (Nat.le_refl _) (Nat.le_refl _) ?_
    rintro _ m1 ⟨rfl, f1, hM1⟩
    rw [efx, show (fx : Int) + ((shV T v : Nat) : Int) = ((fx + shV T v : Nat) : Int) from rfl]
    refine z_bipush dX0_fact_119 rfl (by decide) ?_
    refine z_ishr dX0_fact_121 ?_
    refine z_bipush dX0_fact_122 rfl (by decide) ?_
    refine z_iand dX0_fact_124 ?_
    rw [ex_lo (by omega) hr1 hr2 hr3 hr4 hr5]
    refine z_iret dX0_fact_125 rfl rfl ?_
    exact ⟨by rw [hs5, tOf_5, ← evn]; unfold loV; rw [Int.toNat_of_nonneg (by assumption)], f1, hM1⟩
  by_cases hs6 : w = 6
  · refine z_tabIn (tgt := 126) dX0_fact_8 (by omega) (by omega) (by rw [hs6]; rfl) rfl ?_
    refine z_aload_n dX0_fact_126 rfl ?_
    refine z_iload_n dX0_fact_127 rfl ?_
    refine z_callV mlX0_184 dX0_fact_128 s14 (av := [_]) rfl rfl (Nat.le_of_ble_eq_true rfl) (c_shapeOf _ s14 T hw hl hV b bcap sB b24 hLc hLb sG D hM i v hv) (Nat.le_refl _) (Nat.le_refl _) (Nat.le_refl _) (Nat.le_refl _) ?_
    rintro _ m1 ⟨rfl, f1, hM1⟩
    rw [efx, show (fx : Int) + ((shV T v : Nat) : Int) = ((fx + shV T v : Nat) : Int) from rfl]
    refine z_bipush dX0_fact_131 rfl (by decide) ?_
    refine z_ishr dX0_fact_133 ?_
    refine z_bipush dX0_fact_134 rfl (by decide) ?_
    refine z_iand dX0_fact_136 ?_
    rw [ex_br (by omega) hr1 hr2 hr3 hr4 hr5]
    refine z_iret dX0_fact_137 rfl rfl ?_
    exact ⟨by rw [hs6, tOf_6, ← evn]; unfold brV; rw [Int.toNat_of_nonneg (by assumption)], f1, hM1⟩
  by_cases hs7 : w = 7
  · refine z_tabIn (tgt := 138) dX0_fact_8 (by omega) (by omega) (by rw [hs7]; rfl) rfl ?_
    refine z_aload_n dX0_fact_138 rfl ?_
    refine z_iload_n dX0_fact_139 rfl ?_
    refine z_callV mlX0_184 dX0_fact_140 s14 (av := [_]) rfl rfl (Nat.le_of_ble_eq_true rfl) (c_shapeOf _ s14 T hw hl hV b bcap sB b24 hLc hLb sG D hM i v hv) (Nat.le_refl _) (Nat.le_refl _) (Nat.le_refl _) (Nat.le_refl _) ?_
    rintro _ m1 ⟨rfl, f1, hM1⟩
    rw [efx, show (fx : Int) + ((shV T v : Nat) : Int) = ((fx + shV T v : Nat) : Int) from rfl]
    refine z_bipush dX0_fact_143 rfl (by decide) ?_
    refine z_ishr dX0_fact_145 ?_
    refine z_bipush dX0_fact_146 rfl (by decide) ?_
    refine z_iand dX0_fact_148 ?_
    rw [ex_ri (by omega) hr1 hr2 hr3 hr4 hr5]
    refine z_iret dX0_fact_149 rfl rfl ?_
    exact ⟨by rw [hs7, tOf_7, ← evn]; unfold riV; rw [Int.toNat_of_nonneg (by assumption)], f1, hM1⟩
  by_cases hs8 : w = 8
  · refine z_tabIn (tgt := 150) dX0_fact_8 (by omega) (by omega) (by rw [hs8]; rfl) rfl ?_
    refine z_aload_n dX0_fact_150 rfl ?_
    refine z_gP 8 rfl (r := b + 3) flX0_45 dX0_fact_151 s14 rfl hM.2.1.2.2.2.1 (by omega) ?_
    refine z_iload_n dX0_fact_154 rfl ?_
    refine z_ialv dX0_fact_155 sB.2.2.2.1 (by omega) (by omega) hq.2.2.2.1 ?_
    refine z_iret dX0_fact_156 rfl rfl ?_
    exact ⟨by rw [hs8, tOf_8, ← evn], zfr_rf, hM⟩
  by_cases hs9 : w = 9
  · refine z_tabIn (tgt := 157) dX0_fact_8 (by omega) (by omega) (by rw [hs9]; rfl) rfl ?_
    refine z_aload_n dX0_fact_157 rfl ?_
    refine z_iload_n dX0_fact_158 rfl ?_
    refine z_callV mlX0_187 dX0_fact_159 s14 (av := [_]) rfl rfl (Nat.le_of_ble_eq_true rfl) (c_thickest _ 14 b bcap s14 sB (by omega) hM.2.1 (dd : Int) (i : Int) v (by omega) (by omega) o1 (by omega) (by omega) hq.1 (tH T) hH6 hM.2.2.2.2.1 (uF v (tH T)) (cRow_rg hw (nm_row hw hl hmem).2.1) (nm_row hw hl hmem).1 (nm_row hw hl hmem).2.1.2) (Nat.le_refl _) (Nat.le_refl _) (Nat.le_refl _) (Nat.le_refl _) ?_
    rintro _ _ ⟨rfl, rfl⟩
    refine z_iret dX0_fact_162 rfl rfl ?_
    exact ⟨by rw [hs9, tOf_9, ← evn], zfr_rf, hM⟩
  refine z_tabOut (tgt := 163) dX0_fact_8 (by omega) rfl ?_
  refine z_aload_n dX0_fact_163 rfl ?_
  refine z_gP 9 rfl (r := b + 4) flX0_48 dX0_fact_164 s14 rfl hM.2.1.2.2.2.2.1 (by omega) ?_
  refine z_iload_n dX0_fact_167 rfl ?_
  refine z_iald dX0_fact_168 sB.2.2.2.2.1 (by omega) (by omega) ?_
  refine z_bipush dX0_fact_169 rfl (by decide) ?_
  refine z_iand dX0_fact_171 ?_
  rw [htr]
  refine z_iret dX0_fact_172 rfl rfl ?_
  have hs10 : w = 10 := by omega
  exact ⟨by rw [hs10, tOf_10, ← evn, efx], zfr_rf, hM⟩

theorem c_factFor (d : Nat) {E : zE} {m : zM} (x : Int) (hx : 0 ≤ x ∧ x ≤ 4) : zR zX0_factFor (d) [zI x] m E E (fun r m' => r = some (zI (ffr x)) ∧ m = m') := by
  refine zR_go [zI x] (by decide +kernel) (Nat.le_of_ble_eq_true rfl) rfl rfl ?_
  refine z_iload_n dX0_factFor_0 rfl ?_
  by_cases hz0 : x = 0
  · refine z_look (tgt := 28) dX0_factFor_1 rfl (off := 27) (by rw [hz0]; rfl) rfl ?_
    refine z_iconst dX0_factFor_28 (by decide) ?_
    refine z_iret dX0_factFor_29 rfl rfl ?_
    exact ⟨by unfold ffr; rw [if_pos hz0], rfl⟩
  by_cases hz4 : x = 4
  · refine z_look (tgt := 30) dX0_factFor_1 rfl (off := 29) (by rw [hz4]; rfl) rfl ?_
    refine z_iconst dX0_factFor_30 (by decide) ?_
    refine z_iret dX0_factFor_31 rfl rfl ?_
    exact ⟨by unfold ffr; rw [if_neg hz0, if_pos hz4], rfl⟩
  refine z_look (tgt := 32) dX0_factFor_1 rfl (off := 31) (look_0 hz0 hz4) rfl ?_
  refine z_iload_n dX0_factFor_32 rfl ?_
  refine z_iconst dX0_factFor_33 (by decide) ?_
  refine z_add dX0_factFor_34 (by omega) ?_
  refine z_iret dX0_factFor_35 rfl rfl ?_
  exact ⟨by unfold ffr; rw [if_neg hz0, if_neg hz4], rfl⟩

theorem l_linkedPairings (d : Nat) {E : zE} {m : zM} {P : Option zV → zM → Prop} (s14 : E.1 14 = (6, 20)) (T : zT) (hw : wfC T.1) (hl : wfL T.1 T.2.1 T.2.2.1 T.2.2.2) (hV : zsum (fun p => zb (T.1 (32 + 9 * p + 1) = 1)) (T.1 2).toNat 0 ≤ 5) (b bcap : Int) (sB : shDg E b bcap) (b24 : 24 < b) (hLc : ((tPairs T).length : Int) ≤ bcap) (hLb : (tPairs T).length ≤ 10395) (sG : shG E 18) (D : List Int) : ∀ (j : Nat) (i : Nat) (x : Int) (m1 : zM), (i + j = D.length) → (0 ≤ x ∧ x ≤ i * 10395) → (zfr (fSh b) m m1) → (dM m1 b T D) → (∀ m', zfr (fSh b) m m' → dM m' b T D → P (some (zI (x + zsum (hLP T D) j (i : Int)))) m') → zA zX0_linkedPairings (d + 5) E E P 4 [zP 14, zI x, zI (i : Nat)] [] m1 E := by
  intro j
  induction j with
  | zero =>
    intro i x m1 hj hx hf hM1 hP
    have hDl := hM1.1.2.2.2.2.1
    have h18 := hM1.1.2.2.2.1
    refine z_iload_n dX0_linkedPairings_4 rfl ?_
    refine z_aload_n dX0_linkedPairings_5 rfl ?_
    refine z_gIv 18 rfl flX0_108 dX0_linkedPairings_6 s14 rfl h18 ?_
    refine z_icmp_ge (tgt := 39) dX0_linkedPairings_9 rfl (fun h9 => ?_) (fun h => absurd (by omega) h)
    refine z_iload_n dX0_linkedPairings_39 rfl ?_
    refine z_iret dX0_linkedPairings_40 rfl rfl ?_
    have hh := hP m1 hf hM1
    rw [show zsum (hLP T D) 0 (i : Int) = 0 from rfl, Int.add_zero] at hh
    exact hh
  | succ j ih =>
    intro i x m1 hj hx hf hM1 hP
    have hDl := hM1.1.2.2.2.2.1
    have h18 := hM1.1.2.2.2.1
    have hd : D[i]? = some (lf D (i : Int)) := by
      have := lf_get (L := D) (i := (i : Int)) (by omega)
      rw [Int.toNat_natCast] at this
      exact this
    have hq := hM1.1.2.1 i _ hd
    have hcb := lS_bd (f := fun r => zb (tName T r = lf D (i : Int))) (l := tPairs T) (fun r => by have := zb01 (tName T r = lf D (i : Int)); omega)
    refine z_iload_n dX0_linkedPairings_4 rfl ?_
    refine z_aload_n dX0_linkedPairings_5 rfl ?_
    refine z_gIv 18 rfl flX0_108 dX0_linkedPairings_6 s14 rfl h18 ?_
    refine z_icmp_ge (tgt := 39) dX0_linkedPairings_9 rfl (fun h => absurd h (by omega)) (fun h9 => ?_)
    refine z_iload_n dX0_linkedPairings_12 rfl ?_
    refine z_aload_n dX0_linkedPairings_13 rfl ?_
    refine z_iload_n dX0_linkedPairings_14 rfl ?_
    refine z_callV mlX0_217 dX0_linkedPairings_15 s14 (av := [_]) rfl rfl (Nat.le_of_ble_eq_true rfl) (c_isLinked d s14 T hw hl hV b bcap sB b24 hLc hLb sG D hM1 i _ hd) (Nat.le_refl _) (Nat.le_refl _) (Nat.le_refl _) (Nat.le_refl _) ?_
    rintro _ m2 ⟨rfl, f2, hM2⟩
    refine z_ifz_eq (tgt := 30) dX0_linkedPairings_18 rfl (fun h18 => ?_) (fun h18 => ?_)
    · refine z_iconst dX0_linkedPairings_30 (by decide) ?_
      refine z_add dX0_linkedPairings_31 (by omega) ?_
      refine z_ist 1 dX0_linkedPairings_32 rfl (Nat.le_of_ble_eq_true rfl) ?_
      refine z_inc dX0_linkedPairings_33 rfl (by omega) ?_
      refine z_goto (tgt := 4) dX0_linkedPairings_36 rfl ?_
      try dsimp only [zs0, zsI, zsP, zsN, zsJ, zsS, zst2, Nat.reduceAdd]
      refine zA_wk [_, _, _] (by exact ⟨Or.inr rfl, Or.inr rfl, Or.inr rfl, trivial⟩) ?_
      rw [show (i : Int) + 1 = ((i + 1 : Nat) : Int) by omega]
      refine ih (i + 1) _ m2 (by omega) (by omega) (zfr_tr hf f2) hM2 (fun m3 g3 h3 => ?_)
      have hh := hP m3 g3 h3
      rw [zsum_s, show (hLP T D) (i : Int) = 0 from if_neg (h18), ← Int.add_assoc] at hh
      exact hh
    · refine z_aload_n dX0_linkedPairings_21 rfl ?_
      refine z_gP 6 rfl (r := b + 1) flX0_39 dX0_linkedPairings_22 s14 rfl hM2.2.1.2.1 (by omega) ?_
      refine z_iload_n dX0_linkedPairings_25 rfl ?_
      refine z_ialv dX0_linkedPairings_26 sB.2.1 (by omega) (by omega) (hM2.1.2.1 i _ hd).2.1 ?_
      refine z_goto (tgt := 31) dX0_linkedPairings_27 rfl ?_
      refine z_add dX0_linkedPairings_31 (by omega) ?_
      refine z_ist 1 dX0_linkedPairings_32 rfl (Nat.le_of_ble_eq_true rfl) ?_
      refine z_inc dX0_linkedPairings_33 rfl (by omega) ?_
      refine z_goto (tgt := 4) dX0_linkedPairings_36 rfl ?_
      try dsimp only [zs0, zsI, zsP, zsN, zsJ, zsS, zst2, Nat.reduceAdd]
      refine zA_wk [_, _, _] (by exact ⟨Or.inr rfl, Or.inr rfl, Or.inr rfl, trivial⟩) ?_
      rw [show (i : Int) + 1 = ((i + 1 : Nat) : Int) by omega]
      refine ih (i + 1) _ m2 (by omega) (by omega) (zfr_tr hf f2) hM2 (fun m3 g3 h3 => ?_)
      have hh := hP m3 g3 h3
      rw [zsum_s, show (hLP T D) (i : Int) = lS (fun r => zb (tName T r = lf D (i : Int))) (tPairs T) from if_pos (h18), ← Int.add_assoc] at hh
      exact hh

theorem c_linkedPairings (d : Nat) {E : zE} {m : zM} (s14 : E.1 14 = (6, 20)) (T : zT) (hw : wfC T.1) (hl : wfL T.1 T.2.1 T.2.2.1 T.2.2.2) (hV : zsum (fun p => zb (T.1 (32 + 9 * p + 1) = 1)) (T.1 2).toNat 0 ≤ 5) (b bcap : Int) (sB : shDg E b bcap) (b24 : 24 < b) (hLc : ((tPairs T).length : Int) ≤ bcap) (hLb : (tPairs T).length ≤ 10395) (sG : shG E 18) (D : List Int) (hM : dM m b T D) : zR zX0_linkedPairings (d + 5) [zP 14] m E E (fun r m' => r = some (zI (tMany T 0 0)) ∧ zfr (fSh b) m m' ∧ dM m' b T D) := by
  refine zR_go [zP 14, zN, zN] (by decide +kernel) (Nat.le_of_ble_eq_true rfl) rfl rfl ?_
  refine z_iconst dX0_linkedPairings_0 (by decide) ?_
  refine z_ist 1 dX0_linkedPairings_1 rfl (Nat.le_of_ble_eq_true rfl) ?_
  refine z_iconst dX0_linkedPairings_2 (by decide) ?_
  refine z_ist 2 dX0_linkedPairings_3 rfl (Nat.le_of_ble_eq_true rfl) ?_
  try dsimp only [zs0, zsI, zsP, zsN, zsJ, zsS, zst2, Nat.reduceAdd]
  refine l_linkedPairings d s14 T hw hl hV b bcap sB b24 hLc hLb sG D D.length 0 0 m (by omega) (by omega) zfr_rf hM (fun m3 g3 h3 => ⟨?_, g3, h3⟩)
  rw [Int.zero_add]
  exact congrArg (fun z => some (zI z)) (sum_linkedPairings h3)

theorem l_connectedPairings (d : Nat) {E : zE} {m : zM} {P : Option zV → zM → Prop} (s14 : E.1 14 = (6, 20)) (T : zT) (hw : wfC T.1) (hl : wfL T.1 T.2.1 T.2.2.1 T.2.2.2) (hV : zsum (fun p => zb (T.1 (32 + 9 * p + 1) = 1)) (T.1 2).toNat 0 ≤ 5) (b bcap : Int) (sB : shDg E b bcap) (b24 : 24 < b) (hLc : ((tPairs T).length : Int) ≤ bcap) (hLb : (tPairs T).length ≤ 10395) (sG : shG E 18) (D : List Int) : ∀ (j : Nat) (i : Nat) (x : Int) (m1 : zM), (i + j = D.length) → (0 ≤ x ∧ x ≤ i * 10395) → (zfr (fSh b) m m1) → (dM m1 b T D) → (∀ m', zfr (fSh b) m m' → dM m' b T D → P (some (zI (x + zsum (hCP T D) j (i : Int)))) m') → zA zX0_connectedPairings (d + 5) E E P 4 [zP 14, zI x, zI (i : Nat)] [] m1 E := by
  intro j
  induction j with
  | zero =>
    intro i x m1 hj hx hf hM1 hP
    have hDl := hM1.1.2.2.2.2.1
    have h18 := hM1.1.2.2.2.1
    refine z_iload_n dX0_connectedPairings_4 rfl ?_
    refine z_aload_n dX0_connectedPairings_5 rfl ?_
    refine z_gIv 18 rfl flX0_108 dX0_connectedPairings_6 s14 rfl h18 ?_
    refine z_icmp_ge (tgt := 40) dX0_connectedPairings_9 rfl (fun h9 => ?_) (fun h => absurd (by omega) h)
    refine z_iload_n dX0_connectedPairings_40 rfl ?_
    refine z_iret dX0_connectedPairings_41 rfl rfl ?_
    have hh := hP m1 hf hM1
    rw [show zsum (hCP T D) 0 (i : Int) = 0 from rfl, Int.add_zero] at hh
    exact hh
  | succ j ih =>
    intro i x m1 hj hx hf hM1 hP
    have hDl := hM1.1.2.2.2.2.1
    have h18 := hM1.1.2.2.2.1
    have hd : D[i]? = some (lf D (i : Int)) := by
      have := lf_get (L := D) (i := (i : Int)) (by omega)
      rw [Int.toNat_natCast] at this
      exact this
    have hq := hM1.1.2.1 i _ hd
    have hcb := lS_bd (f := fun r => zb (tName T r = lf D (i : Int))) (l := tPairs T) (fun r => by have := zb01 (tName T r = lf D (i : Int)); omega)
    refine z_iload_n dX0_connectedPairings_4 rfl ?_
    refine z_aload_n dX0_connectedPairings_5 rfl ?_
    refine z_gIv 18 rfl flX0_108 dX0_connectedPairings_6 s14 rfl h18 ?_
    refine z_icmp_ge (tgt := 40) dX0_connectedPairings_9 rfl (fun h => absurd h (by omega)) (fun h9 => ?_)
    refine z_iload_n dX0_connectedPairings_12 rfl ?_
    refine z_aload_n dX0_connectedPairings_13 rfl ?_
    refine z_iload_n dX0_connectedPairings_14 rfl ?_
    refine z_callV mlX0_221 dX0_connectedPairings_15 s14 (av := [_]) rfl rfl (Nat.le_of_ble_eq_true rfl) (c_partsOf d s14 T hw hl hV b bcap sB b24 hLc hLb sG D hM1 i _ hd) (Nat.le_refl _) (Nat.le_refl _) (Nat.le_refl _) (Nat.le_refl _) ?_
    rintro _ m2 ⟨rfl, f2, hM2⟩
    refine z_iconst dX0_connectedPairings_18 (by decide) ?_
    refine z_icmp_ne (tgt := 31) dX0_connectedPairings_19 rfl (fun h19 => ?_) (fun h19 => ?_)
    · refine z_iconst dX0_connectedPairings_31 (by decide) ?_
      refine z_add dX0_connectedPairings_32 (by omega) ?_
      refine z_ist 1 dX0_connectedPairings_33 rfl (Nat.le_of_ble_eq_true rfl) ?_
      refine z_inc dX0_connectedPairings_34 rfl (by omega) ?_
      refine z_goto (tgt := 4) dX0_connectedPairings_37 rfl ?_
      try dsimp only [zs0, zsI, zsP, zsN, zsJ, zsS, zst2, Nat.reduceAdd]
      refine zA_wk [_, _, _] (by exact ⟨Or.inr rfl, Or.inr rfl, Or.inr rfl, trivial⟩) ?_
      rw [show (i : Int) + 1 = ((i + 1 : Nat) : Int) by omega]
      refine ih (i + 1) _ m2 (by omega) (by omega) (zfr_tr hf f2) hM2 (fun m3 g3 h3 => ?_)
      have hh := hP m3 g3 h3
      rw [zsum_s, show (hCP T D) (i : Int) = 0 from if_neg (by omega), ← Int.add_assoc] at hh
      exact hh
    · refine z_aload_n dX0_connectedPairings_22 rfl ?_
      refine z_gP 6 rfl (r := b + 1) flX0_39 dX0_connectedPairings_23 s14 rfl hM2.2.1.2.1 (by omega) ?_
      refine z_iload_n dX0_connectedPairings_26 rfl ?_
      refine z_ialv dX0_connectedPairings_27 sB.2.1 (by omega) (by omega) (hM2.1.2.1 i _ hd).2.1 ?_
      refine z_goto (tgt := 32) dX0_connectedPairings_28 rfl ?_
      refine z_add dX0_connectedPairings_32 (by omega) ?_
      refine z_ist 1 dX0_connectedPairings_33 rfl (Nat.le_of_ble_eq_true rfl) ?_
      refine z_inc dX0_connectedPairings_34 rfl (by omega) ?_
      refine z_goto (tgt := 4) dX0_connectedPairings_37 rfl ?_
      try dsimp only [zs0, zsI, zsP, zsN, zsJ, zsS, zst2, Nat.reduceAdd]
      refine zA_wk [_, _, _] (by exact ⟨Or.inr rfl, Or.inr rfl, Or.inr rfl, trivial⟩) ?_
      rw [show (i : Int) + 1 = ((i + 1 : Nat) : Int) by omega]
      refine ih (i + 1) _ m2 (by omega) (by omega) (zfr_tr hf f2) hM2 (fun m3 g3 h3 => ?_)
      have hh := hP m3 g3 h3
      rw [zsum_s, show (hCP T D) (i : Int) = lS (fun r => zb (tName T r = lf D (i : Int))) (tPairs T) from if_pos (by omega), ← Int.add_assoc] at hh
      exact hh

theorem c_connectedPairings (d : Nat) {E : zE} {m : zM} (s14 : E.1 14 = (6, 20)) (T : zT) (hw : wfC T.1) (hl : wfL T.1 T.2.1 T.2.2.1 T.2.2.2) (hV : zsum (fun p => zb (T.1 (32 + 9 * p + 1) = 1)) (T.1 2).toNat 0 ≤ 5) (b bcap : Int) (sB : shDg E b bcap) (b24 : 24 < b) (hLc : ((tPairs T).length : Int) ≤ bcap) (hLb : (tPairs T).length ≤ 10395) (sG : shG E 18) (D : List Int) (hM : dM m b T D) : zR zX0_connectedPairings (d + 5) [zP 14] m E E (fun r m' => r = some (zI (tMany T 1 0)) ∧ zfr (fSh b) m m' ∧ dM m' b T D) := by
  refine zR_go [zP 14, zN, zN] (by decide +kernel) (Nat.le_of_ble_eq_true rfl) rfl rfl ?_
  refine z_iconst dX0_connectedPairings_0 (by decide) ?_
  refine z_ist 1 dX0_connectedPairings_1 rfl (Nat.le_of_ble_eq_true rfl) ?_
  refine z_iconst dX0_connectedPairings_2 (by decide) ?_
  refine z_ist 2 dX0_connectedPairings_3 rfl (Nat.le_of_ble_eq_true rfl) ?_
  try dsimp only [zs0, zsI, zsP, zsN, zsJ, zsS, zst2, Nat.reduceAdd]
  refine l_connectedPairings d s14 T hw hl hV b bcap sB b24 hLc hLb sG D D.length 0 0 m (by omega) (by omega) zfr_rf hM (fun m3 g3 h3 => ⟨?_, g3, h3⟩)
  rw [Int.zero_add]
  exact congrArg (fun z => some (zI z)) (sum_connectedPairings h3)

theorem l_linkedDiagrams (d : Nat) {E : zE} {m : zM} {P : Option zV → zM → Prop} (s14 : E.1 14 = (6, 20)) (T : zT) (hw : wfC T.1) (hl : wfL T.1 T.2.1 T.2.2.1 T.2.2.2) (hV : zsum (fun p => zb (T.1 (32 + 9 * p + 1) = 1)) (T.1 2).toNat 0 ≤ 5) (b bcap : Int) (sB : shDg E b bcap) (b24 : 24 < b) (hLc : ((tPairs T).length : Int) ≤ bcap) (hLb : (tPairs T).length ≤ 10395) (sG : shG E 18) (D : List Int) : ∀ (j : Nat) (i : Nat) (x : Int) (m1 : zM), (i + j = D.length) → (0 ≤ x ∧ x ≤ i * 10395) → (zfr (fSh b) m m1) → (dM m1 b T D) → (∀ m', zfr (fSh b) m m' → dM m' b T D → P (some (zI (x + zsum (hLD T D) j (i : Int)))) m') → zA zX0_linkedDiagrams (d + 5) E E P 4 [zP 14, zI x, zI (i : Nat)] [] m1 E := by
  intro j
  induction j with
  | zero =>
    intro i x m1 hj hx hf hM1 hP
    have hDl := hM1.1.2.2.2.2.1
    have h18 := hM1.1.2.2.2.1
    refine z_iload_n dX0_linkedDiagrams_4 rfl ?_
    refine z_aload_n dX0_linkedDiagrams_5 rfl ?_
    refine z_gIv 18 rfl flX0_108 dX0_linkedDiagrams_6 s14 rfl h18 ?_
    refine z_icmp_ge (tgt := 34) dX0_linkedDiagrams_9 rfl (fun h9 => ?_) (fun h => absurd (by omega) h)
    refine z_iload_n dX0_linkedDiagrams_34 rfl ?_
    refine z_iret dX0_linkedDiagrams_35 rfl rfl ?_
    have hh := hP m1 hf hM1
    rw [show zsum (hLD T D) 0 (i : Int) = 0 from rfl, Int.add_zero] at hh
    exact hh
  | succ j ih =>
    intro i x m1 hj hx hf hM1 hP
    have hDl := hM1.1.2.2.2.2.1
    have h18 := hM1.1.2.2.2.1
    have hd : D[i]? = some (lf D (i : Int)) := by
      have := lf_get (L := D) (i := (i : Int)) (by omega)
      rw [Int.toNat_natCast] at this
      exact this
    have hq := hM1.1.2.1 i _ hd
    have hcb := lS_bd (f := fun r => zb (tName T r = lf D (i : Int))) (l := tPairs T) (fun r => by have := zb01 (tName T r = lf D (i : Int)); omega)
    refine z_iload_n dX0_linkedDiagrams_4 rfl ?_
    refine z_aload_n dX0_linkedDiagrams_5 rfl ?_
    refine z_gIv 18 rfl flX0_108 dX0_linkedDiagrams_6 s14 rfl h18 ?_
    refine z_icmp_ge (tgt := 34) dX0_linkedDiagrams_9 rfl (fun h => absurd h (by omega)) (fun h9 => ?_)
    refine z_iload_n dX0_linkedDiagrams_12 rfl ?_
    refine z_aload_n dX0_linkedDiagrams_13 rfl ?_
    refine z_iload_n dX0_linkedDiagrams_14 rfl ?_
    refine z_callV mlX0_217 dX0_linkedDiagrams_15 s14 (av := [_]) rfl rfl (Nat.le_of_ble_eq_true rfl) (c_isLinked d s14 T hw hl hV b bcap sB b24 hLc hLb sG D hM1 i _ hd) (Nat.le_refl _) (Nat.le_refl _) (Nat.le_refl _) (Nat.le_refl _) ?_
    rintro _ m2 ⟨rfl, f2, hM2⟩
    refine z_ifz_eq (tgt := 25) dX0_linkedDiagrams_18 rfl (fun h18 => ?_) (fun h18 => ?_)
    · refine z_iconst dX0_linkedDiagrams_25 (by decide) ?_
      refine z_add dX0_linkedDiagrams_26 (by omega) ?_
      refine z_ist 1 dX0_linkedDiagrams_27 rfl (Nat.le_of_ble_eq_true rfl) ?_
      refine z_inc dX0_linkedDiagrams_28 rfl (by omega) ?_
      refine z_goto (tgt := 4) dX0_linkedDiagrams_31 rfl ?_
      try dsimp only [zs0, zsI, zsP, zsN, zsJ, zsS, zst2, Nat.reduceAdd]
      refine zA_wk [_, _, _] (by exact ⟨Or.inr rfl, Or.inr rfl, Or.inr rfl, trivial⟩) ?_
      rw [show (i : Int) + 1 = ((i + 1 : Nat) : Int) by omega]
      refine ih (i + 1) _ m2 (by omega) (by omega) (zfr_tr hf f2) hM2 (fun m3 g3 h3 => ?_)
      have hh := hP m3 g3 h3
      rw [zsum_s, show (hLD T D) (i : Int) = 0 from if_neg (h18), ← Int.add_assoc] at hh
      exact hh
    · refine z_iconst dX0_linkedDiagrams_21 (by decide) ?_
      refine z_goto (tgt := 26) dX0_linkedDiagrams_22 rfl ?_
      refine z_add dX0_linkedDiagrams_26 (by omega) ?_
      refine z_ist 1 dX0_linkedDiagrams_27 rfl (Nat.le_of_ble_eq_true rfl) ?_
      refine z_inc dX0_linkedDiagrams_28 rfl (by omega) ?_
      refine z_goto (tgt := 4) dX0_linkedDiagrams_31 rfl ?_
      try dsimp only [zs0, zsI, zsP, zsN, zsJ, zsS, zst2, Nat.reduceAdd]
      refine zA_wk [_, _, _] (by exact ⟨Or.inr rfl, Or.inr rfl, Or.inr rfl, trivial⟩) ?_
      rw [show (i : Int) + 1 = ((i + 1 : Nat) : Int) by omega]
      refine ih (i + 1) _ m2 (by omega) (by omega) (zfr_tr hf f2) hM2 (fun m3 g3 h3 => ?_)
      have hh := hP m3 g3 h3
      rw [zsum_s, show (hLD T D) (i : Int) = 1 from if_pos (h18), ← Int.add_assoc] at hh
      exact hh

theorem c_linkedDiagrams (d : Nat) {E : zE} {m : zM} (s14 : E.1 14 = (6, 20)) (T : zT) (hw : wfC T.1) (hl : wfL T.1 T.2.1 T.2.2.1 T.2.2.2) (hV : zsum (fun p => zb (T.1 (32 + 9 * p + 1) = 1)) (T.1 2).toNat 0 ≤ 5) (b bcap : Int) (sB : shDg E b bcap) (b24 : 24 < b) (hLc : ((tPairs T).length : Int) ≤ bcap) (hLb : (tPairs T).length ≤ 10395) (sG : shG E 18) (D : List Int) (hM : dM m b T D) : zR zX0_linkedDiagrams (d + 5) [zP 14] m E E (fun r m' => r = some (zI (tMany T 0 1)) ∧ zfr (fSh b) m m' ∧ dM m' b T D) := by
  refine zR_go [zP 14, zN, zN] (by decide +kernel) (Nat.le_of_ble_eq_true rfl) rfl rfl ?_
  refine z_iconst dX0_linkedDiagrams_0 (by decide) ?_
  refine z_ist 1 dX0_linkedDiagrams_1 rfl (Nat.le_of_ble_eq_true rfl) ?_
  refine z_iconst dX0_linkedDiagrams_2 (by decide) ?_
  refine z_ist 2 dX0_linkedDiagrams_3 rfl (Nat.le_of_ble_eq_true rfl) ?_
  try dsimp only [zs0, zsI, zsP, zsN, zsJ, zsS, zst2, Nat.reduceAdd]
  refine l_linkedDiagrams d s14 T hw hl hV b bcap sB b24 hLc hLb sG D D.length 0 0 m (by omega) (by omega) zfr_rf hM (fun m3 g3 h3 => ⟨?_, g3, h3⟩)
  rw [Int.zero_add]
  exact congrArg (fun z => some (zI z)) (sum_linkedDiagrams h3)

theorem l_countWith (d : Nat) {E : zE} {m : zM} {P : Option zV → zM → Prop} (s14 : E.1 14 = (6, 20)) (T : zT) (hw : wfC T.1) (hl : wfL T.1 T.2.1 T.2.2.1 T.2.2.2) (hV : zsum (fun p => zb (T.1 (32 + 9 * p + 1) = 1)) (T.1 2).toNat 0 ≤ 5) (b bcap : Int) (sB : shDg E b bcap) (b24 : 24 < b) (hLc : ((tPairs T).length : Int) ≤ bcap) (hLb : (tPairs T).length ≤ 10395) (sG : shG E 18) (D : List Int) (hO : sOrd T.1 (T.1 2).toNat 0 0 1 = oTh T.1 (T.1 2).toNat) (hO2 : 0 ≤ oTh T.1 (T.1 2).toNat ∧ oTh T.1 (T.1 2).toNat ≤ 2147483647) (wh nu : Int) (hwh : 0 ≤ wh ∧ wh ≤ 4) : ∀ (j : Nat) (i : Nat) (x : Int) (m1 : zM), (i + j = D.length) → (0 ≤ x ∧ x ≤ i) → (zfr (fSh b) m m1) → (dM m1 b T D) → (∀ m', zfr (fSh b) m m' → dM m' b T D → P (some (zI (x + zsum (fun k => zb (tOf T k (ffr wh) = nu)) j (i : Int)))) m') → zA zX0_countWith (d + 5) E E P 5 [zP 14, zI wh, zI nu, zI x, zI (i : Nat)] [] m1 E := by
  intro j
  induction j with
  | zero =>
    intro i x m1 hj hx hf hM1 hP
    have hDl := hM1.1.2.2.2.2.1
    have h18 := hM1.1.2.2.2.1
    refine z_iload dX0_countWith_5 rfl ?_
    refine z_aload_n dX0_countWith_7 rfl ?_
    refine z_gIv 18 rfl flX0_108 dX0_countWith_8 s14 rfl h18 ?_
    refine z_icmp_ge (tgt := 42) dX0_countWith_11 rfl (fun h11 => ?_) (fun h => absurd (by omega) h)
    refine z_iload_n dX0_countWith_42 rfl ?_
    refine z_iret dX0_countWith_43 rfl rfl ?_
    have hh := hP m1 hf hM1
    rw [show zsum (fun k => zb (tOf T k (ffr wh) = nu)) 0 (i : Int) = 0 from rfl, Int.add_zero] at hh
    exact hh
  | succ j ih =>
    intro i x m1 hj hx hf hM1 hP
    have hDl := hM1.1.2.2.2.2.1
    have h18 := hM1.1.2.2.2.1
    refine z_iload dX0_countWith_5 rfl ?_
    refine z_aload_n dX0_countWith_7 rfl ?_
    refine z_gIv 18 rfl flX0_108 dX0_countWith_8 s14 rfl h18 ?_
    refine z_icmp_ge (tgt := 42) dX0_countWith_11 rfl (fun h => absurd h (by omega)) (fun h11 => ?_)
    refine z_iload_n dX0_countWith_14 rfl ?_
    refine z_aload_n dX0_countWith_15 rfl ?_
    refine z_iload dX0_countWith_16 rfl ?_
    refine z_iload_n dX0_countWith_18 rfl ?_
    refine z_callS mlX0_224 dX0_countWith_19 (av := [_]) rfl rfl (Nat.le_of_ble_eq_true rfl) (c_factFor _ wh hwh) (Nat.le_refl _) (Nat.le_refl _) (Nat.le_refl _) (Nat.le_refl _) ?_
    rintro _ _ ⟨rfl, rfl⟩
    refine z_callV mlX0_227 dX0_countWith_22 s14 (av := [_, _]) rfl rfl (Nat.le_of_ble_eq_true rfl) (c_fact d s14 T hw hl hV b bcap sB b24 hLc hLb sG D hM1 i (by omega) (ffr wh) (ffr_rg hwh) hO hO2) (Nat.le_refl _) (Nat.le_refl _) (Nat.le_refl _) (Nat.le_refl _) ?_
    rintro _ m2 ⟨rfl, f2, hM2⟩
    refine z_iload_n dX0_countWith_25 rfl ?_
    refine z_icmp_ne (tgt := 33) dX0_countWith_26 rfl (fun h26 => ?_) (fun h26 => ?_)
    · refine z_iconst dX0_countWith_33 (by decide) ?_
      refine z_add dX0_countWith_34 (by omega) ?_
      refine z_ist 3 dX0_countWith_35 rfl (Nat.le_of_ble_eq_true rfl) ?_
      refine z_inc dX0_countWith_36 rfl (by omega) ?_
      refine z_goto (tgt := 5) dX0_countWith_39 rfl ?_
      try dsimp only [zs0, zsI, zsP, zsN, zsJ, zsS, zst2, Nat.reduceAdd]
      refine zA_wk [_, _, _, _, _] (by exact ⟨Or.inr rfl, Or.inr rfl, Or.inr rfl, Or.inr rfl, Or.inr rfl, trivial⟩) ?_
      rw [show (i : Int) + 1 = ((i + 1 : Nat) : Int) by omega]
      refine ih (i + 1) _ m2 (by omega) (by omega) (zfr_tr hf f2) hM2 (fun m3 g3 h3 => ?_)
      have hh := hP m3 g3 h3
      rw [zsum_s, show zb (tOf T (i : Int) (ffr wh) = nu) = 0 from zb_f h26, ← Int.add_assoc] at hh
      exact hh
    · refine z_iconst dX0_countWith_29 (by decide) ?_
      refine z_goto (tgt := 34) dX0_countWith_30 rfl ?_
      refine z_add dX0_countWith_34 (by omega) ?_
      refine z_ist 3 dX0_countWith_35 rfl (Nat.le_of_ble_eq_true rfl) ?_
      refine z_inc dX0_countWith_36 rfl (by omega) ?_
      refine z_goto (tgt := 5) dX0_countWith_39 rfl ?_
      try dsimp only [zs0, zsI, zsP, zsN, zsJ, zsS, zst2, Nat.reduceAdd]
      refine zA_wk [_, _, _, _, _] (by exact ⟨Or.inr rfl, Or.inr rfl, Or.inr rfl, Or.inr rfl, Or.inr rfl, trivial⟩) ?_
      rw [show (i : Int) + 1 = ((i + 1 : Nat) : Int) by omega]
      refine ih (i + 1) _ m2 (by omega) (by omega) (zfr_tr hf f2) hM2 (fun m3 g3 h3 => ?_)
      have hh := hP m3 g3 h3
      rw [zsum_s, show zb (tOf T (i : Int) (ffr wh) = nu) = 1 from zb_t (by omega), ← Int.add_assoc] at hh
      exact hh

theorem c_countWith (d : Nat) {E : zE} {m : zM} (s14 : E.1 14 = (6, 20)) (T : zT) (hw : wfC T.1) (hl : wfL T.1 T.2.1 T.2.2.1 T.2.2.2) (hV : zsum (fun p => zb (T.1 (32 + 9 * p + 1) = 1)) (T.1 2).toNat 0 ≤ 5) (b bcap : Int) (sB : shDg E b bcap) (b24 : 24 < b) (hLc : ((tPairs T).length : Int) ≤ bcap) (hLb : (tPairs T).length ≤ 10395) (sG : shG E 18) (D : List Int) (hM : dM m b T D) (hO : sOrd T.1 (T.1 2).toNat 0 0 1 = oTh T.1 (T.1 2).toNat) (hO2 : 0 ≤ oTh T.1 (T.1 2).toNat ∧ oTh T.1 (T.1 2).toNat ≤ 2147483647) (wh nu : Int) (hwh : 0 ≤ wh ∧ wh ≤ 4) : zR zX0_countWith (d + 5) [zP 14, zI wh, zI nu] m E E (fun r m' => r = some (zI (zsum (fun k => zb (tOf T k (ffr wh) = nu)) (tD T).length 0)) ∧ zfr (fSh b) m m' ∧ dM m' b T D) := by
  refine zR_go [zP 14, zI wh, zI nu, zN, zN] (by decide +kernel) (Nat.le_of_ble_eq_true rfl) rfl rfl ?_
  refine z_iconst dX0_countWith_0 (by decide) ?_
  refine z_ist 3 dX0_countWith_1 rfl (Nat.le_of_ble_eq_true rfl) ?_
  refine z_iconst dX0_countWith_2 (by decide) ?_
  refine z_istore dX0_countWith_3 (Nat.le_of_ble_eq_true rfl) ?_
  try dsimp only [zs0, zsI, zsP, zsN, zsJ, zsS, zst2, Nat.reduceAdd]
  refine l_countWith d s14 T hw hl hV b bcap sB b24 hLc hLb sG D hO hO2 wh nu hwh D.length 0 0 m (by omega) (by omega) zfr_rf hM (fun m3 g3 h3 => ⟨?_, g3, h3⟩)
  rw [Int.zero_add, (dG_ord h3.1).1]
  rfl
