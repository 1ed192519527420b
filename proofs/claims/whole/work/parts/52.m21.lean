def fN1 : List (Int × Option Int) := [(a_codes, none), (aM, some f_lines), (a_key, none), (a_sorted, none)]
theorem ptM_1 {m m1 : zM} (h : ptM m) (b : zfr fN1 m m1) : ptM m1 := fun q hq => by
  have hq2 : ∀ q ∈ mPt, fN1.all (fun r => r.1 != aM || (r.2 != none && r.2 != some q.1)) = true := by decide
  rw [zfr_at b (hq2 q hq)]
  exact h q hq
/-- the key of a pairing: its codes, sorted, as one number -/
noncomputable def sKeyOf (c w q : Int → Int) (n : Int) (mt : Int → Int) : Int := sKey (lf (sCL n.toNat (cCode c w q) mt n.toNat 0)) (n / 2).toNat
theorem sCL_mem {n : Nat} {code : Int → Int → Int} {mt : Int → Int} {k : Nat} {v : Int} (h : v ∈ sCL n code mt k 0) : ∃ i : Int, 0 ≤ i ∧ i < k ∧ ¬ mt i < i ∧ v = code i (mt i) := by
  obtain ⟨j, h1, h2, h3⟩ := sCat_mem h
  split at h3
  · simp at h3
  · rename_i e
    simp at h3
    exact ⟨j, h1, by omega, e, h3⟩
theorem lf_mem {l : List Int} {x : Int} (h0 : 0 ≤ x) (h : x < l.length) : lf l x ∈ l := by
  unfold lf
  rw [List.getD_eq_getElem?_getD, List.getElem?_eq_getElem (by omega)]
  exact List.getElem_mem _
theorem lf_code {c w q : Int → Int} {n : Int} {mt : Int → Int} (hw : wfC c) (hl : wfL c w q n) (hf : sFull n.toNat (cMay c w q) mt) {x : Int} (h0 : 0 ≤ x) (hx : x < ((sCL n.toNat (cCode c w q) mt n.toNat 0).length : Int)) : 0 ≤ lf (sCL n.toNat (cCode c w q) mt n.toNat 0) x ∧ lf (sCL n.toNat (cCode c w q) mt n.toNat 0) x / 100 < c 2 ∧ lf (sCL n.toNat (cCode c w q) mt n.toNat 0) x / 10 % 10 < c 2 ∧ lf (sCL n.toNat (cCode c w q) mt n.toNat 0) x < 800 := by
  obtain ⟨i, h1, h2, h3, h4⟩ := sCL_mem (lf_mem h0 hx)
  have hb := hl.1
  have hfi := hf.1 i h1 h2
  rw [h4]
  exact cCode_rg hw hl h1 (by omega) hfi.1 (by omega) (hfi.2.2.2.2 (by omega))
theorem l_laysNames_1 (d : Nat) {E : zE} {m : zM} {P : Option zV → zM → Prop} (hE : shM E) (hm : ptM m)  (hk : mOK m) (hL : mL m) (hlaid : m aM f_laid ≤ 10395) : ∀ (j : Nat) (k : Nat) (m1 : zM), (ptM m1) → ((k : Int) + j = m aM f_laid) → (zfr fN1 m m1) → (∀ (t : Nat) (mt : Int → Int), (t : Int) < k → (mPairs m)[t]? = some mt → m1 a_key t = sKeyOf (m a_c) (m a_what) (m a_pointOf) (m aM f_letters) mt ∧ m1 a_sorted t = sKeyOf (m a_c) (m a_what) (m a_pointOf) (m aM f_letters) mt) → (∀ m2, ptM m2 → zfr fN1 m m2 → (∀ (t : Nat) (mt : Int → Int), (t : Int) < m aM f_laid → (mPairs m)[t]? = some mt → m2 a_key t = sKeyOf (m a_c) (m a_what) (m a_pointOf) (m aM f_letters) mt ∧ m2 a_sorted t = sKeyOf (m a_c) (m a_what) (m a_pointOf) (m aM f_letters) mt) → zA zX12_laysNames (d + 13) E E P 78 [zP aM, zN] [] m2 E) → zA zX12_laysNames (d + 13) E E P 19 [zP aM, zI (k : Nat)] [] m1 E := by
  intro j
  induction j with
  | zero =>
    intro k m1 hm1 hk2 hf hq hP
    have ec : m1 a_c = m a_c := zfr_cell hf (by decide)
    have ew : m1 a_what = m a_what := zfr_cell hf (by decide)
    have eq' : m1 a_pointOf = m a_pointOf := zfr_cell hf (by decide)
    have et : m1 a_table = m a_table := zfr_cell hf (by decide)
    have en : m1 aM f_letters = m aM f_letters := zfr_at hf (by decide)
    have eL : m1 aM f_laid = m aM f_laid := zfr_at hf (by decide)
    refine z_iload_n dX12_laysNames_19 rfl ?_
    refine z_aload_n dX12_laysNames_20 rfl ?_
    refine z_gIv f_laid rfl flX12_172 dX12_laysNames_21 (sh_M hE) rfl eL ?_
    refine z_icmp_ge (tgt := 78) dX12_laysNames_24 rfl (fun h24 => ?_) (fun h => absurd (by omega) h)
    refine zA_wk [_, zN] (by exact ⟨Or.inr rfl, Or.inl rfl, trivial⟩) ?_
    exact hP m1 hm1 hf (by rw [show m aM f_laid = (k : Int) by omega]; exact hq)
  | succ j ih =>
    intro k m1 hm1 hk2 hf hq hP
    have hl := flat_wfL hk.2.1 hk.2.2.1 hk.2.2.2.1
    have ec : m1 a_c = m a_c := zfr_cell hf (by decide)
    have ew : m1 a_what = m a_what := zfr_cell hf (by decide)
    have eq' : m1 a_pointOf = m a_pointOf := zfr_cell hf (by decide)
    have et : m1 a_table = m a_table := zfr_cell hf (by decide)
    have en : m1 aM f_letters = m aM f_letters := zfr_at hf (by decide)
    have eL : m1 aM f_laid = m aM f_laid := zfr_at hf (by decide)
    have hb1 := hl.1
    obtain ⟨mt, hget⟩ : ∃ mt, (mPairs m)[k]? = some mt := List.getElem?_eq_some_iff.mpr ⟨by have := hL.1; omega, rfl⟩ |> fun h => ⟨_, h⟩
    have hfull := sPair_full (c := m a_c) (w := m a_what) (q := m a_pointOf) hb1.1 hb1.2 mt (List.mem_of_getElem? hget)
    have hrow := (hL.2 k mt hget).1
    have hlen := sCL_len (code := cCode (m a_c) (m a_what) (m a_pointOf)) hfull (k := (m aM f_letters).toNat) (Nat.le_refl _)
    have hop := hfull.2
    unfold sOp at hop
    have hlen3 : (sCL (m aM f_letters).toNat (cCode (m a_c) (m a_what) (m a_pointOf)) mt (m aM f_letters).toNat 0).length = (m aM f_letters / 2).toNat := by omega
    refine z_iload_n dX12_laysNames_19 rfl ?_
    refine z_aload_n dX12_laysNames_20 rfl ?_
    refine z_gIv f_laid rfl flX12_172 dX12_laysNames_21 (sh_M hE) rfl eL ?_
    refine z_icmp_ge (tgt := 78) dX12_laysNames_24 rfl (fun h => absurd h (by omega)) (fun h24 => ?_)
    refine z_aload_n dX12_laysNames_27 rfl ?_
    refine z_iload_n dX12_laysNames_28 rfl ?_
    refine z_callV mlX12_249 dX12_laysNames_29 (sh_M hE) (av := [_]) rfl rfl (Nat.le_of_ble_eq_true rfl) (r_codesOf _ hE hm1 (k : Int) (by omega) (by omega) mt (by rw [ec]; exact hk.2.1) (by rw [ec, ew, eq', en]; exact hl) (by rw [et, en]; exact hrow) (by rw [ec, ew, eq', en]; exact hfull)) (Nat.le_refl _) (Nat.le_refl _) (Nat.le_refl _) (Nat.le_refl _) ?_
    rw [ec, ew, eq', en]
    rintro _ m2 ⟨rfl, c1, c2, c3⟩
    have hm2 : ptM m2 := ptM_1 hm1 (zfr_sub c1 (by decide))
    refine z_aload_n dX12_laysNames_32 rfl ?_
    refine z_gP 18 rfl (r := a_codes) flX12_44 dX12_laysNames_33 (sh_M hE) rfl (pt_codes hm2) (by decide) ?_
    refine z_aload_n dX12_laysNames_36 rfl ?_
    refine z_gIv f_lines rfl flX12_197 dX12_laysNames_37 (sh_M hE) rfl c2 ?_
    refine z_callS mlX12_209 dX12_laysNames_40 (av := [_, _]) rfl rfl (Nat.le_of_ble_eq_true rfl) (r_sorts _ a_codes 6 (sh_codes hE) (sCL (m aM f_letters).toNat (cCode (m a_c) (m a_what) (m a_pointOf)) mt (m aM f_letters).toNat 0).length (by omega) (by omega)) (Nat.le_refl _) (Nat.le_refl _) (Nat.le_refl _) (Nat.le_refl _) ?_
    rintro _ m3 ⟨rfl, s1, s2, s3, s4⟩
    have hm3 : ptM m3 := ptM_1 hm2 (zfr_sub s1 (by decide))
    have hrg : ∀ i : Int, 0 ≤ i → i < (sCL (m aM f_letters).toNat (cCode (m a_c) (m a_what) (m a_pointOf)) mt (m aM f_letters).toNat 0).length → 0 ≤ m3 a_codes i ∧ m3 a_codes i < 1024 := pm_all (P := fun v => 0 ≤ v ∧ v < 1024) (pm_sy s3) (fun i q1 q2 => by rw [c3 i q1 q2]; have := lf_code hk.2.1 hl hfull q1 q2; omega)
    refine z_aload_n dX12_laysNames_43 rfl ?_
    refine z_gP 25 rfl (r := a_key) flX12_53 dX12_laysNames_44 (sh_M hE) rfl (pt_key hm3) (by decide) ?_
    refine z_iload_n dX12_laysNames_47 rfl ?_
    refine z_aload_n dX12_laysNames_48 rfl ?_
    refine z_gP 18 rfl (r := a_codes) flX12_44 dX12_laysNames_49 (sh_M hE) rfl (pt_codes hm3) (by decide) ?_
    refine z_aload_n dX12_laysNames_52 rfl ?_
    refine z_gIv f_lines rfl flX12_197 dX12_laysNames_53 (sh_M hE) rfl ((zfr_at s1 (by decide)).trans c2) ?_
    refine z_callS mlX12_213 dX12_laysNames_56 (av := [_, _]) rfl rfl (Nat.le_of_ble_eq_true rfl) (r_packed _ a_codes 6 (sh_codes hE) (sCL (m aM f_letters).toNat (cCode (m a_c) (m a_what) (m a_pointOf)) mt (m aM f_letters).toNat 0).length (by omega) (by omega) hrg) (Nat.le_refl _) (Nat.le_refl _) (Nat.le_refl _) (Nat.le_refl _) ?_
    rw [show sPk (m3 a_codes) (sCL (m aM f_letters).toNat (cCode (m a_c) (m a_what) (m a_pointOf)) mt (m aM f_letters).toNat 0).length = sKeyOf (m a_c) (m a_what) (m a_pointOf) (m aM f_letters) mt from by rw [sKeyOf, ← hlen3, ← sKey_eq s4 s3]; exact sKey_congr c3]
    rintro _ _ ⟨rfl, rfl⟩
    refine z_last dX12_laysNames_59 (sh_key hE) (by omega) (by omega) ?_
    refine z_aload_n dX12_laysNames_60 rfl ?_
    refine z_gP 26 rfl (r := a_sorted) flX12_57 dX12_laysNames_61 (sh_M hE) rfl (pt_sorted (ptM_a hm3 (by decide))) (by decide) ?_
    refine z_iload_n dX12_laysNames_64 rfl ?_
    refine z_aload_n dX12_laysNames_65 rfl ?_
    refine z_gP 25 rfl (r := a_key) flX12_53 dX12_laysNames_66 (sh_M hE) rfl (pt_key (ptM_a hm3 (by decide))) (by decide) ?_
    refine z_iload_n dX12_laysNames_69 rfl ?_
    refine z_lalv dX12_laysNames_70 (sh_key hE) (by omega) (by omega) zu_s ?_
    refine z_last dX12_laysNames_71 (sh_sorted hE) (by omega) (by omega) ?_
    refine z_inc dX12_laysNames_72 rfl (by omega) ?_
    refine z_goto (tgt := 19) dX12_laysNames_75 rfl ?_
    try dsimp only [zs0, zsI, zsP, zsN, zsJ, zsS, zst2, Nat.reduceAdd]
    rw [show (k : Int) + 1 = ((k + 1 : Nat) : Int) by omega]
    refine ih (k + 1) _ (ptM_a (ptM_a hm3 (by decide)) (by decide)) (by omega) (zfr_ua (zfr_ua (zfr_tr hf (zfr_tr (zfr_sub c1 (by decide)) (zfr_sub s1 (by decide)))) (by decide)) (by decide)) (fun t mt2 q1 q2 => ?_) hP
    rw [zu_a (show a_key ≠ a_sorted by decide)]
    by_cases e : (t : Int) = k
    · have e2 : t = k := by omega
      subst e2
      rw [hget] at q2
      cases q2
      rw [zu_s, zu_s]
      exact ⟨rfl, rfl⟩
    · rw [zu_j e, zu_j e, zu_a (by decide), congrFun (zfr_cell (a := a_key) s1 (by decide)) _, congrFun (zfr_cell (a := a_key) c1 (by decide)) _, congrFun (zfr_cell (a := a_sorted) s1 (by decide)) _, congrFun (zfr_cell (a := a_sorted) c1 (by decide)) _]
      exact hq t mt2 (by omega) q2
