def fNames : List (Int × Option Int) := [(aM, some f_isNamed), (aM, some f_keys), (aM, some f_diagrams), (a_diagramOf, none)] ++ fN1 ++ fN2 ++ fLays
noncomputable def mName (m : zM) (mt : Int → Int) : Int := sNM (m a_c) (m aM f_letters / 2).toNat (sKeyOf (m a_c) (m a_what) (m a_pointOf) (m aM f_letters) mt)
/-- the names of all diagrams lie there, rising; each pairing knows its own -/
def mN (m : zM) : Prop := ∃ D : Nat, m aM f_diagrams = (D : Int) ∧ D ≤ 10395 ∧ sInc (m a_names) D ∧ (∀ v : Int, (∃ x : Int, 0 ≤ x ∧ x < D ∧ m a_names x = v) ↔ ∃ mt ∈ mPairs m, mName m mt = v) ∧ ∀ (t : Nat) (mt : Int → Int), (mPairs m)[t]? = some mt → 0 ≤ m a_diagramOf t ∧ m a_diagramOf t < D ∧ m a_names (m a_diagramOf t) = mName m mt
theorem mPairs_eq {m m' : zM} (h1 : m' a_c = m a_c) (h2 : m' a_what = m a_what) (h3 : m' a_pointOf = m a_pointOf) (h4 : m' aM f_letters = m aM f_letters) : mPairs m' = mPairs m ∧ mName m' = mName m := by
  constructor
  · unfold mPairs; rw [h1, h2, h3, h4]
  · funext mt; unfold mName; rw [h1, h2, h3, h4]
theorem mN_kept {m m1 : zM} (f : zfr fLays m m1) (h : mN m) : mN m1 := by
  obtain ⟨e1, e2⟩ := mPairs_eq (m := m) (m' := m1) (zfr_cell f (by decide)) (zfr_cell f (by decide)) (zfr_cell f (by decide)) (zfr_at f (by decide))
  unfold mN
  rw [e1, e2, zfr_cell (a := a_names) f (by decide), zfr_cell (a := a_diagramOf) f (by decide), zfr_at (a := aM) (j := f_diagrams) f (by decide)]
  exact h
theorem mOK_named {m : zM} {v : Int} (h : mOK m) : mOK (zu m aM f_isNamed v) := by
  unfold mOK at h ⊢
  rw [zu_fn (show a_c ≠ aM by decide), zu_fn (show a_what ≠ aM by decide), zu_fn (show a_pointOf ≠ aM by decide), zu_fn (show a_mate ≠ aM by decide), zu_j (show f_letters ≠ f_isNamed by decide)]
  exact ⟨ptM_j h.1 (by decide), h.2⟩
theorem mL_named {m : zM} {v : Int} (h : mL m) : mL (zu m aM f_isNamed v) := by
  have e := (mPairs_eq (m := m) (m' := zu m aM f_isNamed v) (zu_fn (by decide)) (zu_fn (by decide)) (zu_fn (by decide)) (zu_j (by decide))).1
  unfold mL at h ⊢
  rw [e, zu_fn (show a_c ≠ aM by decide), zu_fn (show a_what ≠ aM by decide), zu_fn (show a_table ≠ aM by decide), zu_fn (show a_sign ≠ aM by decide), zu_fn (show a_crossings ≠ aM by decide), zu_fn (show a_rounds ≠ aM by decide), zu_j (show f_letters ≠ f_isNamed by decide), zu_j (show f_laid ≠ f_isNamed by decide)]
  exact h
theorem names_rows {M m2 m3 : zM} {K : Nat} (hkM : mOK M) (hLM : mL M) (f2 : zfr fN1 M m2) (h2 : ∀ (t : Nat) (mt : Int → Int), (t : Int) < M aM f_laid → (mPairs M)[t]? = some mt → m2 a_key t = sKeyOf (M a_c) (M a_what) (M a_pointOf) (M aM f_letters) mt ∧ m2 a_sorted t = sKeyOf (M a_c) (M a_what) (M a_pointOf) (M aM f_letters) mt) (s1 : zfr [(a_sorted, none)] m2 m3) (s5 : ∀ v : Int, (∃ x : Int, 0 ≤ x ∧ x < K ∧ m3 a_sorted x = v) ↔ ∃ x : Int, 0 ≤ x ∧ x < ((mPairs M).length : Int) ∧ m2 a_sorted x = v) : ∀ t : Int, 0 ≤ t → t < zu m3 aM f_keys K aM f_keys → ∃ g, zu m3 aM f_keys K a_sorted t = sPk g (zu m3 aM f_keys K aM f_letters / 2).toNat ∧ ∀ i : Int, 0 ≤ i → i < (zu m3 aM f_keys K aM f_letters / 2).toNat → 0 ≤ g i ∧ g i / 100 < zu m3 aM f_keys K a_c 2 ∧ g i / 10 % 10 < zu m3 aM f_keys K a_c 2 ∧ g i < 800 := by
  intro t q1 q2
  rw [zu_s] at q2
  have hwl := flat_wfL hkM.2.1 hkM.2.2.1 hkM.2.2.2.1
  obtain ⟨x, x1, x2, x3⟩ := (s5 (m3 a_sorted t)).mp ⟨t, q1, q2, rfl⟩
  obtain ⟨mt, hget⟩ : ∃ mt, (mPairs M)[x.toNat]? = some mt := ⟨_, List.getElem?_eq_getElem (by omega)⟩
  have hkey := (h2 x.toNat mt (by rw [hLM.1]; omega) hget).2
  rw [show ((x.toNat : Nat) : Int) = x by omega] at hkey
  obtain ⟨g, g1, g2⟩ := sKeyOf_row hkM.2.1 hwl (sPair_full hwl.1.1 hwl.1.2 mt (List.mem_of_getElem? hget))
  rw [zu_a (show a_sorted ≠ aM by decide), zu_fn (show a_c ≠ aM by decide), zu_j (show f_letters ≠ f_keys by decide), zfr_cell (a := a_c) s1 (by decide), zfr_cell (a := a_c) f2 (by decide), zfr_at (a := aM) (j := f_letters) s1 (by decide), zfr_at (a := aM) (j := f_letters) f2 (by decide)]
  exact ⟨g, by rw [← x3, hkey, g1], g2⟩
set_option maxHeartbeats 1000000 in
theorem names_third (d : Nat) {E : zE} {m m1 m2 m3 m4 m5 : zM} {K D : Nat} (hE : shM E) (hk1 : mOK m1) (hL1 : mL m1) (hpl4 : ∀ x : Int, 0 ≤ x → x < 8 → 0 ≤ m4 a_places x ∧ m4 a_places x < 8) (f1 : zfr fLays m m1) (i1 : m1 aM f_isLaid = 1) (hm5 : ptM m5) (f2 : zfr fN1 (zu m1 aM f_isNamed 1) m2) (h2 : ∀ (t : Nat) (mt : Int → Int), (t : Int) < (zu m1 aM f_isNamed 1) aM f_laid → (mPairs (zu m1 aM f_isNamed 1))[t]? = some mt → m2 a_key t = sKeyOf ((zu m1 aM f_isNamed 1) a_c) ((zu m1 aM f_isNamed 1) a_what) ((zu m1 aM f_isNamed 1) a_pointOf) ((zu m1 aM f_isNamed 1) aM f_letters) mt ∧ m2 a_sorted t = sKeyOf ((zu m1 aM f_isNamed 1) a_c) ((zu m1 aM f_isNamed 1) a_what) ((zu m1 aM f_isNamed 1) a_pointOf) ((zu m1 aM f_isNamed 1) aM f_letters) mt)
    (s1 : zfr [(a_sorted, none)] m2 m3) (s3 : K ≤ (mPairs (zu m1 aM f_isNamed 1)).length) (s4 : sInc (m3 a_sorted) K) (s5 : ∀ v : Int, (∃ x : Int, 0 ≤ x ∧ x < K ∧ m3 a_sorted x = v) ↔ ∃ x : Int, 0 ≤ x ∧ x < ((mPairs (zu m1 aM f_isNamed 1)).length : Int) ∧ m2 a_sorted x = v)
    (f4 : zfr fN2 (zu m3 aM f_keys K) m4) (h4 : ∀ t : Int, 0 ≤ t → t < zu m3 aM f_keys K aM f_keys → m4 a_least t = sNM (zu m3 aM f_keys K a_c) (zu m3 aM f_keys K aM f_letters / 2).toNat (zu m3 aM f_keys K a_sorted t) ∧ m4 a_names t = sNM (zu m3 aM f_keys K a_c) (zu m3 aM f_keys K aM f_letters / 2).toNat (zu m3 aM f_keys K a_sorted t))
    (v1 : zfr [(a_names, none)] m4 m5) (v3 : D ≤ K) (v4 : sInc (m5 a_names) D) (v5 : ∀ v : Int, (∃ x : Int, 0 ≤ x ∧ x < D ∧ m5 a_names x = v) ↔ ∃ x : Int, 0 ≤ x ∧ x < K ∧ m4 a_names x = v) :
    zA zX12_laysNames (d + 13) E E (fun r m' => r = none ∧ zfr fNames m m' ∧ m' aM f_isLaid = 1 ∧ m' aM f_isNamed = 1 ∧ mL m' ∧ mOK m' ∧ mN m' ∧ (∀ x : Int, 0 ≤ x → x < 8 → 0 ≤ m' a_places x ∧ m' a_places x < 8)) 167 [zP aM, zI 0] [] (zu m5 aM f_diagrams D) E := by
  have hkM : mOK (zu m1 aM f_isNamed 1) := mOK_named hk1
  have hLM : mL (zu m1 aM f_isNamed 1) := mL_named hL1
  have hwlM := flat_wfL hkM.2.1 hkM.2.2.1 hkM.2.2.2.1
  have hcap : (mPairs (zu m1 aM f_isNamed 1)).length ≤ 10395 := sLay_le (by have := hwlM.1; omega) _ _ _
  generalize hMe : zu m1 aM f_isNamed 1 = M at *
  have hfM : zfr fNames m M := by rw [← hMe]; exact zfr_uj (zfr_sub f1 (by decide)) (by decide)
  have hf5 : zfr fNames M (zu m5 aM f_diagrams D) := zfr_uj (zfr_tr (zfr_tr (zfr_tr (zfr_sub f2 (by decide)) (zfr_sub s1 (by decide))) (zfr_uj zfr_rf (by decide))) (zfr_tr (zfr_sub f4 (by decide)) (zfr_sub v1 (by decide)))) (by decide)
  have g1 : ∀ {a : Int}, fN1.all (fun q => q.1 != a) = true → fN2.all (fun q => q.1 != a) = true → a ≠ a_names → a ≠ aM → a ≠ a_sorted → zu m5 aM f_diagrams D a = M a := fun x1 x2 x3 x4 x5 => by
    rw [zu_fn x4, zfr_cell v1 (by simp; exact fun e => x3 e.symm), zfr_cell f4 x2, zu_fn x4, zfr_cell s1 (by simp; exact fun e => x5 e.symm), zfr_cell f2 x1]
  have ec := g1 (a := a_c) (by decide) (by decide) (by decide) (by decide) (by decide)
  have ew := g1 (a := a_what) (by decide) (by decide) (by decide) (by decide) (by decide)
  have eq' := g1 (a := a_pointOf) (by decide) (by decide) (by decide) (by decide) (by decide)
  have en : zu m5 aM f_diagrams D aM f_letters = M aM f_letters := by rw [zu_j (by decide), zfr_at v1 (by decide), zfr_at f4 (by decide), zu_j (by decide), zfr_at s1 (by decide), zfr_at f2 (by decide)]
  have el : zu m5 aM f_diagrams D aM f_laid = M aM f_laid := by rw [zu_j (by decide), zfr_at v1 (by decide), zfr_at f4 (by decide), zu_j (by decide), zfr_at s1 (by decide), zfr_at f2 (by decide)]
  have eK : zu m5 aM f_diagrams D aM f_keys = (K : Int) := by rw [zu_j (by decide), zfr_at v1 (by decide), zfr_at f4 (by decide), zu_s]
  have es : zu m5 aM f_diagrams D a_sorted = m3 a_sorted := by rw [zu_fn (by decide), zfr_cell v1 (by decide), zfr_cell f4 (by decide), zu_fn (by decide)]
  have ek : zu m5 aM f_diagrams D a_key = m2 a_key := by rw [zu_fn (by decide), zfr_cell v1 (by decide), zfr_cell f4 (by decide), zu_fn (by decide), zfr_cell s1 (by decide)]
  have ele : zu m5 aM f_diagrams D a_least = m4 a_least := by rw [zu_fn (by decide), zfr_cell v1 (by decide)]
  have enm : zu m5 aM f_diagrams D a_names = m5 a_names := zu_fn (by decide)
  have hkey : ∀ (t : Nat) (mt : Int → Int), (mPairs M)[t]? = some mt → m2 a_key t = sKeyOf (M a_c) (M a_what) (M a_pointOf) (M aM f_letters) mt ∧ m2 a_sorted t = sKeyOf (M a_c) (M a_what) (M a_pointOf) (M aM f_letters) mt := fun t mt h => h2 t mt (by rw [hLM.1]; have := (List.getElem?_eq_some_iff.mp h).1; omega) h
  have h4b : ∀ t : Int, 0 ≤ t → t < K → m4 a_least t = sNM (M a_c) (M aM f_letters / 2).toNat (m3 a_sorted t) ∧ m4 a_names t = sNM (M a_c) (M aM f_letters / 2).toNat (m3 a_sorted t) := fun t a b => by
    have := h4 t a (by rw [zu_s]; exact b)
    rw [zu_fn (show a_c ≠ aM by decide), zu_j (show f_letters ≠ f_keys by decide), zu_a (show a_sorted ≠ aM by decide), zfr_cell (a := a_c) s1 (by decide), zfr_cell (a := a_c) f2 (by decide), zfr_at (a := aM) (j := f_letters) s1 (by decide), zfr_at (a := aM) (j := f_letters) f2 (by decide)] at this
    exact this
  have hsk : ∀ (t : Nat) (mt : Int → Int), (mPairs M)[t]? = some mt → ∃ x : Int, 0 ≤ x ∧ x < K ∧ m3 a_sorted x = m2 a_key t := fun t mt h => by
    have hlt := (List.getElem?_eq_some_iff.mp h).1
    exact (s5 _).mpr ⟨t, by omega, by omega, by rw [(hkey t mt h).1, (hkey t mt h).2]⟩
  have hla : 0 ≤ M aM f_laid ∧ M aM f_laid ≤ 10395 := by rw [hLM.1]; omega
  refine l_laysNames_3 d hE (m := zu m5 aM f_diagrams D) (ptM_j hm5 (by decide)) (by rw [el]; exact hla) K D eK (by omega) zu_s (by omega) (by rw [es]; exact s4) (by rw [enm]; exact v4) ?_ ?_ ?_ (M aM f_laid).toNat 0 _ (ptM_j hm5 (by decide)) (by rw [el]; omega) zfr_rf (fun t a b => by omega) (fun m6 f6 h6 => ?_)
  · intro t a b
    rw [es, ek]
    rw [el, hLM.1] at b
    obtain ⟨mt, hget⟩ : ∃ mt, (mPairs M)[t.toNat]? = some mt := ⟨_, List.getElem?_eq_getElem (by omega)⟩
    have := hsk t.toNat mt hget
    rw [show ((t.toNat : Nat) : Int) = t by omega] at this
    exact this
  · intro x a b
    rw [ele, es, ec, en]
    exact (h4b x a b).1
  · intro x a b
    rw [ele, enm, (h4b x a b).1, ← (h4b x a b).2]
    exact (v5 _).mpr ⟨x, a, b, rfl⟩
  · have c1 : m6 a_c = M a_c := (zfr_cell f6 (by decide)).trans ec
    have c2 : m6 a_what = M a_what := (zfr_cell f6 (by decide)).trans ew
    have c3 : m6 a_pointOf = M a_pointOf := (zfr_cell f6 (by decide)).trans eq'
    have c4 : m6 aM f_letters = M aM f_letters := (zfr_at f6 (by decide)).trans en
    have c5 : m6 aM f_laid = M aM f_laid := (zfr_at f6 (by decide)).trans el
    obtain ⟨p1, p2⟩ := mPairs_eq (m := M) (m' := m6) c1 c2 c3 c4
    have hf6 : zfr fNames M m6 := zfr_tr hf5 (zfr_sub f6 (by decide))
    have cell : ∀ {a : Int}, fNames.all (fun q => q.1 != a) = true → m6 a = M a := fun x => zfr_cell hf6 x
    have tb : ∀ {a : Int}, fN1.all (fun q => q.1 != a) = true → fN2.all (fun q => q.1 != a) = true → a ≠ a_names → a ≠ aM → a ≠ a_sorted → a ≠ a_diagramOf → m6 a = M a := fun x1 x2 x3 x4 x5 x6 => (zfr_cell f6 (by simp; exact fun e => x6 e.symm)).trans (g1 x1 x2 x3 x4 x5)
    refine ⟨rfl, zfr_tr hfM hf6, ?_, ?_, ?_, ?_, ?_, ?_⟩
    · rw [zfr_at f6 (by decide), zu_j (by decide), zfr_at v1 (by decide), zfr_at f4 (by decide), zu_j (by decide), zfr_at s1 (by decide), zfr_at f2 (by decide), ← hMe, zu_j (by decide)]; exact i1
    · rw [zfr_at f6 (by decide), zu_j (by decide), zfr_at v1 (by decide), zfr_at f4 (by decide), zu_j (by decide), zfr_at s1 (by decide), zfr_at f2 (by decide), ← hMe, zu_s]
    · unfold mL
      rw [p1, c1, c2, c4, c5, tb (a := a_table) (by decide) (by decide) (by decide) (by decide) (by decide) (by decide), tb (a := a_sign) (by decide) (by decide) (by decide) (by decide) (by decide) (by decide), tb (a := a_crossings) (by decide) (by decide) (by decide) (by decide) (by decide) (by decide), tb (a := a_rounds) (by decide) (by decide) (by decide) (by decide) (by decide) (by decide)]
      exact hLM
    · refine ⟨fun q hq => ?_, ?_⟩
      · have := (ptM_j hm5 (by decide) : ptM (zu m5 aM f_diagrams D)) q hq
        rw [congrFun (zfr_cell (a := aM) f6 (by decide)) q.1]; exact this
      · rw [c1, c2, c3, c4, tb (a := a_mate) (by decide) (by decide) (by decide) (by decide) (by decide) (by decide)]
        exact hkM.2
    · refine ⟨D, by rw [zfr_at f6 (by decide), zu_s], by omega, by rw [zfr_cell (a := a_names) f6 (by decide), enm]; exact v4, fun v => ?_, fun t mt ht => ?_⟩
      · rw [zfr_cell (a := a_names) f6 (by decide), enm, v5 v, p1, p2]
        constructor
        · rintro ⟨x, a, b, c⟩
          rw [(h4b x a b).2] at c
          obtain ⟨y, y1, y2, y3⟩ := (s5 (m3 a_sorted x)).mp ⟨x, a, b, rfl⟩
          obtain ⟨mt, hget⟩ : ∃ mt, (mPairs M)[y.toNat]? = some mt := ⟨_, List.getElem?_eq_getElem (by omega)⟩
          have hk2 := (hkey y.toNat mt hget).2
          rw [show ((y.toNat : Nat) : Int) = y by omega] at hk2
          exact ⟨mt, List.mem_of_getElem? hget, by unfold mName; rw [← hk2, y3]; exact c⟩
        · rintro ⟨mt, hmem, hv⟩
          obtain ⟨t, ht⟩ := List.getElem?_of_mem hmem
          obtain ⟨x, x1, x2, x3⟩ := hsk t mt ht
          exact ⟨x, x1, x2, by rw [(h4b x x1 x2).2, x3, (hkey t mt ht).1]; exact hv⟩
      · rw [p1] at ht
        rw [p2]
        have hlt := (List.getElem?_eq_some_iff.mp ht).1
        have h7 := h6 t (by omega) (by rw [el, hLM.1]; omega)
        rw [zu_s, enm, ec, en, ek, (hkey t mt ht).1] at h7
        rw [zfr_cell (a := a_names) f6 (by decide), enm]
        exact h7
    · rw [zfr_cell (a := a_places) f6 (by decide), zu_fn (by decide), zfr_cell v1 (by decide)]; exact hpl4
theorem r_laysNames (d : Nat) {E : zE} {m : zM} (hE : shM E) (hm : ptM m) (hk : mOK m) (hi : m aM f_isLaid = 0 ∨ m aM f_isLaid = 1) (hL : m aM f_isLaid = 1 → mL m) (hnm : m aM f_isNamed = 0 ∨ m aM f_isNamed = 1) (hN : m aM f_isNamed = 1 → mN m) (hpl : (∀ x : Int, 0 ≤ x → x < 8 → 0 ≤ m a_places x ∧ m a_places x < 8)) : zR zX12_laysNames (d + 13) [zP aM] m E E (fun r m' => r = none ∧ zfr fNames m m' ∧ m' aM f_isLaid = 1 ∧ m' aM f_isNamed = 1 ∧ mL m' ∧ mOK m' ∧ mN m' ∧ (∀ x : Int, 0 ≤ x → x < 8 → 0 ≤ m' a_places x ∧ m' a_places x < 8)) := by
  refine zR_go [zP aM, zN] (by decide +kernel) (Nat.le_of_ble_eq_true rfl) rfl rfl ?_
  refine z_aload_n dX12_laysNames_0 rfl ?_
  refine z_callV mlX12_194 dX12_laysNames_1 (sh_M hE) (av := _) rfl rfl (Nat.le_of_ble_eq_true rfl) (r_lays _ hE hm hk hi hL) (Nat.le_refl _) (Nat.le_refl _) (Nat.le_refl _) (Nat.le_refl _) ?_
  rintro _ m1 ⟨rfl, f1, i1, hL1, hk1⟩
  have hm1 := hk1.1
  have hpl1 : (∀ x : Int, 0 ≤ x → x < 8 → 0 ≤ m1 a_places x ∧ m1 a_places x < 8) := by rw [zfr_cell (a := a_places) f1 (by decide)]; exact hpl
  refine z_aload_n dX12_laysNames_4 rfl ?_
  refine z_gIv f_isNamed rfl flX12_134 dX12_laysNames_5 (sh_M hE) rfl (zfr_at f1 (by decide)) ?_
  refine z_if_eq (tgt := 12) dX12_laysNames_8 rfl (fun h8 => ?_) (fun h8 => ?_)
  · refine z_aload_n dX12_laysNames_12 rfl ?_
    refine z_iconst dX12_laysNames_13 (by decide) ?_
    refine z_pZ f_isNamed rfl (fpX12_134 _) dX12_laysNames_14 (sh_M hE) rfl (by first | omega | exact zb01 _) ?_
    refine z_iconst dX12_laysNames_17 (by decide) ?_
    refine z_ist 1 dX12_laysNames_18 rfl (Nat.le_of_ble_eq_true rfl) ?_
    try dsimp only [zs0, zsI, zsP, zsN, zsJ, zsS, zst2, Nat.reduceAdd]
    have hkM : mOK (zu m1 aM f_isNamed 1) := mOK_named hk1
    have hLM : mL (zu m1 aM f_isNamed 1) := mL_named hL1
    have hwlM := flat_wfL hkM.2.1 hkM.2.2.1 hkM.2.2.2.1
    have hcap : (mPairs (zu m1 aM f_isNamed 1)).length ≤ 10395 := sLay_le (by have := hwlM.1; omega) _ _ _
    have hf1 := f1
    have hi1 := i1
    refine l_laysNames_1 d hE (ptM_j hm1 (by decide)) hkM hLM (by rw [hLM.1]; omega) (mPairs (zu m1 aM f_isNamed 1)).length 0 _ (ptM_j hm1 (by decide)) (by rw [hLM.1]; omega) zfr_rf (fun t mt a b => by omega) (fun m2 hm2 f2 h2 => ?_)
    refine z_aload_n dX12_laysNames_78 rfl ?_
    refine z_aload_n dX12_laysNames_79 rfl ?_
    refine z_gP 26 rfl (r := a_sorted) flX12_57 dX12_laysNames_80 (sh_M hE) rfl (pt_sorted hm2) (by decide) ?_
    refine z_aload_n dX12_laysNames_83 rfl ?_
    refine z_gIv f_laid rfl flX12_172 dX12_laysNames_84 (sh_M hE) rfl ((zfr_at f2 (by decide)).trans hLM.1) ?_
    refine z_callS mlX12_252 dX12_laysNames_87 (av := [_, _]) rfl rfl (Nat.le_of_ble_eq_true rfl) (r_sorts_ _ a_sorted 10395 (sh_sorted hE) (mPairs (zu m1 aM f_isNamed 1)).length (by omega) (by omega)) (Nat.le_refl _) (Nat.le_refl _) (Nat.le_refl _) (Nat.le_refl _) ?_
    rintro _ m3 ⟨K, rfl, s1, s2, s3, s4, s5⟩
    have hm3 : ptM m3 := ptM_1 hm2 (zfr_sub s1 (by decide))
    refine z_pI f_keys rfl (fpX12_255 _) dX12_laysNames_90 (sh_M hE) rfl ?_
    refine z_iconst dX12_laysNames_93 (by decide) ?_
    refine z_ist 1 dX12_laysNames_94 rfl (Nat.le_of_ble_eq_true rfl) ?_
    try dsimp only [zs0, zsI, zsP, zsN, zsJ, zsS, zst2, Nat.reduceAdd]
    have hpl3 : (∀ x : Int, 0 ≤ x → x < 8 → 0 ≤ (zu m3 aM f_keys K) a_places x ∧ (zu m3 aM f_keys K) a_places x < 8) := by rw [zu_fn (by decide), zfr_cell s1 (by decide), zfr_cell f2 (by decide), zu_fn (by decide)]; exact hpl1
    refine l_laysNames_2 d hE (m := zu m3 aM f_keys K) (ptM_j hm3 (by decide)) ?_ ?_ ?_ ?_ K 0 _ (ptM_j hm3 (by decide)) (by rw [zu_s]; omega) zfr_rf hpl3 (fun t a b => by omega) (fun m4 hm4 f4 hpl4 h4 => ?_)
    · rw [zu_fn (by decide), zfr_cell s1 (by decide), zfr_cell f2 (by decide)]; exact hkM.2.1
    · rw [zu_j (by decide), zfr_at s1 (by decide), zfr_at f2 (by decide)]; exact hwlM.1
    · rw [zu_s]; omega
    · exact names_rows hkM hLM f2 h2 s1 s5
    refine z_aload_n dX12_laysNames_150 rfl ?_
    refine z_aload_n dX12_laysNames_151 rfl ?_
    refine z_gP 28 rfl (r := a_names) flX12_63 dX12_laysNames_152 (sh_M hE) rfl (pt_names hm4) (by decide) ?_
    refine z_aload_n dX12_laysNames_155 rfl ?_
    refine z_gIv f_keys rfl flX12_255 dX12_laysNames_156 (sh_M hE) rfl ((zfr_at f4 (by decide)).trans zu_s) ?_
    refine z_callS mlX12_252 dX12_laysNames_159 (av := [_, _]) rfl rfl (Nat.le_of_ble_eq_true rfl) (r_sorts_ _ a_names 10395 (sh_names hE) K (by omega) (by omega)) (Nat.le_refl _) (Nat.le_refl _) (Nat.le_refl _) (Nat.le_refl _) ?_
    rintro _ m5 ⟨D, rfl, v1, v2, v3, v4, v5⟩
    have hm5 : ptM m5 := ptM_2 hm4 (zfr_sub v1 (by decide))
    refine z_pI f_diagrams rfl (fpX12_266 _) dX12_laysNames_162 (sh_M hE) rfl ?_
    refine z_iconst dX12_laysNames_165 (by decide) ?_
    refine z_ist 1 dX12_laysNames_166 rfl (Nat.le_of_ble_eq_true rfl) ?_
    try dsimp only [zs0, zsI, zsP, zsN, zsJ, zsS, zst2, Nat.reduceAdd]
    exact names_third d hE hk1 hL1 hpl4 hf1 hi1 hm5 f2 h2 s1 s3 s4 s5 f4 h4 v1 v3 v4 v5
  · refine z_vret dX12_laysNames_11 rfl rfl ?_
    exact ⟨rfl, zfr_sub f1 (by decide), i1, (zfr_at f1 (by decide)).trans (by omega), hL1, hk1, mN_kept f1 (hN (by omega)), hpl1⟩
