/-! the theory that the model holds, what follows from it; the model's rule between two calls -/
abbrev zT : Type := (Int → Int) × (Int → Int) × (Int → Int) × Int
def mT (m : zM) : zT := (m a_c, m a_what, m a_pointOf, m aM f_letters)
def tPairs (T : zT) : List (Int → Int) := sPair T.1 T.2.1 T.2.2.1 T.2.2.2
def tH (T : zT) : Nat := (T.2.2.2 / 2).toNat
def tSign (T : zT) (mt : Int → Int) : Int := sSign T.2.2.2.toNat (cOd T.1 T.2.1) (cBr T.1 T.2.1) mt
def tCr (T : zT) (mt : Int → Int) : Int := sCross T.2.2.2.toNat mt
def tRo (T : zT) (mt : Int → Int) : Int := sRounds T.2.2.2.toNat mt
def tHo (T : zT) (mt : Int → Int) : Int := sHoles T.2.2.2 (tRo T mt)
noncomputable def tName (T : zT) (mt : Int → Int) : Int := sNM T.1 (T.2.2.2 / 2).toNat (sKeyOf T.1 T.2.1 T.2.2.1 T.2.2.2 mt)
noncomputable def tD (T : zT) : List Int := sSet ((tPairs T).map (tName T))
noncomputable def tNm (T : zT) (d : Int) : Int := lf (tD T) d
/-- the codes of a diagram's name -/
noncomputable def tCo (T : zT) (d : Int) : Int → Int := uF (tNm T d) (tH T)
def tS (T : zT) (f : (Int → Int) → Int) : Int := lS f (tPairs T)
noncomputable def tCnt (T : zT) (d : Int) : Int := tS T (fun mt => zb (tName T mt = tNm T d))
noncomputable def tR (h : Nat) (co : Int → Int) (wl wp : Int) (p : Nat) : Nat := gR h (gFr co) (gTo co) (gSk co wl wp) p
noncomputable def tParts (h : Nat) (co : Int → Int) (wl : Int) (pts : Nat) : Nat := sParts (tR h co wl (-1)) 8 0 pts
def tOut (c : Int → Int) : Nat := zmask (fun p => decide (c (32 + 9 * (p : Int) + 1) ≠ 1)) (c 2).toNat
def tAll (c : Int → Int) : Nat := 2 ^ (c 2).toNat - 1
noncomputable def tLost (c : Int → Int) (h : Nat) (co : Int → Int) (pts : Nat) : Nat := zmask (fun p => pts.testBit p && decide (tR h co (-1) (-1) p &&& tOut c = 0)) 8
theorem tPairs_m (m : zM) : mPairs m = tPairs (mT m) := rfl
theorem tName_m (m : zM) (mt : Int → Int) : mName m mt = tName (mT m) mt := rfl
/-- what mT of two memories is alike for -/
theorem mT_of {m m' : zM} (h1 : m' a_c = m a_c) (h2 : m' a_what = m a_what) (h3 : m' a_pointOf = m a_pointOf) (h4 : m' aM f_letters = m aM f_letters) : mT m' = mT m := by
  unfold mT
  rw [h1, h2, h3, h4]
theorem mT_fr {F : List (Int × Option Int)} {m m' : zM} (f : zfr F m m') (h : (F.all (fun q => q.1 != a_c) && F.all (fun q => q.1 != a_what) && F.all (fun q => q.1 != a_pointOf) && F.all (fun q => q.1 != aM || (q.2 != none && q.2 != some f_letters))) = true) : mT m' = mT m := by
  simp only [Bool.and_eq_true] at h
  exact mT_of (zfr_cell f h.1.1.1) (zfr_cell f h.1.1.2) (zfr_cell f h.1.2) (zfr_at f h.2)
def mPl (m : zM) : Prop := ∀ x : Int, 0 ≤ x → x < 8 → 0 ≤ m a_places x ∧ m a_places x < 8
def mWd (m : zM) : Prop := m a_words 0 = 3369766 ∧ m a_words 1 = 357978 ∧ m a_words 2 = 315918 ∧ m a_words 3 = 11047 ∧ m a_words 4 = 9744 ∧ m a_words 5 = 209220123 ∧ m a_words 6 = 8399691 ∧ m a_words 7 = 318702192
/-- THE MODEL'S RULE between two calls -/
def mI (m : zM) : Prop := mOK m ∧ ((m aM f_isLaid = 0 ∨ m aM f_isLaid = 1) ∧ (m aM f_isLaid = 1 → mL m)) ∧ ((m aM f_isNamed = 0 ∨ m aM f_isNamed = 1) ∧ (m aM f_isNamed = 1 → mN m)) ∧ mPl m ∧
  (∀ k : Int, 0 ≤ k → k < 800 → -9 ≤ m a_worths k ∧ m a_worths k ≤ 9) ∧ (0 ≤ m aM f_taped ∧ m aM f_taped ≤ 400) ∧ (0 ≤ m aM f_outMany ∧ m aM f_outMany ≤ 100) ∧ mWd m
/-- what is free between two calls -/
def fFree : List (Int × Option Int) := [(aM, some f_status), (aM, some f_thrown), (a_codes, none), (aM, some f_lines), (a_moved, none), (aM, some f_leastName), (aM, some f_sameNames), (aM, some f_wantedName), (a_key, none), (a_sorted, none), (a_least, none), (aM, some f_keys), (a_held, none), (a_subs, none), (aM, some f_subPoints), (a_out, none), (aM, some f_faultKind), (aM, some f_faultAt), (aM, some f_wrong), (aM, some f_wrongAt), (aM, some f_place), (aM, some f_next), (aM, some f_sort), (aM, some f_number), (aM, some f_size), (aM, some f_wide), (aM, some f_end), (aM, some f_withNumbers), (aM, some f_word), (a_wantedMate, none), (a_toldCodes, none), (a_whole, none)]
def fFreeM : List (Int × Option Int) := (a_mate, none) :: (aM, some f_among) :: fFree
theorem mL_of {m m' : zM} (h : mL m) (e : mT m' = mT m) (e1 : m' aM f_laid = m aM f_laid) (e2 : m' a_table = m a_table) (e3 : m' a_sign = m a_sign) (e4 : m' a_crossings = m a_crossings) (e5 : m' a_rounds = m a_rounds) : mL m' := by
  have a1 : m' a_c = m a_c := congrArg (fun q => q.1) e
  have a2 : m' a_what = m a_what := congrArg (fun q => q.2.1) e
  have a3 : m' a_pointOf = m a_pointOf := congrArg (fun q => q.2.2.1) e
  have a4 : m' aM f_letters = m aM f_letters := congrArg (fun q => q.2.2.2) e
  unfold mL mPairs at h ⊢
  rw [a1, a2, a3, a4, e1, e2, e3, e4, e5]
  exact h
theorem mN_of {m m' : zM} (h : mN m) (e : mT m' = mT m) (e1 : m' aM f_diagrams = m aM f_diagrams) (e2 : m' a_names = m a_names) (e3 : m' a_diagramOf = m a_diagramOf) : mN m' := by
  have a1 : m' a_c = m a_c := congrArg (fun q => q.1) e
  have a2 : m' a_what = m a_what := congrArg (fun q => q.2.1) e
  have a3 : m' a_pointOf = m a_pointOf := congrArg (fun q => q.2.2.1) e
  have a4 : m' aM f_letters = m aM f_letters := congrArg (fun q => q.2.2.2) e
  have e0 := mPairs_eq a1 a2 a3 a4
  unfold mN at h ⊢
  rw [e0.1, e0.2, e1, e2, e3]
  exact h
theorem mOK_of {m m' : zM} (h : mOK m) (e : mT m' = mT m) (hp : ptM m') (hq : ∀ x, (x < 0 ∨ 12 ≤ x) → m' a_mate x = 0) : mOK m' := by
  have a1 : m' a_c = m a_c := congrArg (fun q => q.1) e
  have a2 : m' a_what = m a_what := congrArg (fun q => q.2.1) e
  have a3 : m' a_pointOf = m a_pointOf := congrArg (fun q => q.2.2.1) e
  have a4 : m' aM f_letters = m aM f_letters := congrArg (fun q => q.2.2.2) e
  unfold mOK at h ⊢
  rw [a1, a2, a3, a4]
  exact ⟨hp, h.2.1, h.2.2.1, h.2.2.2.1, hq⟩
theorem ptM_F {m m1 : zM} (h : ptM m) (b : zfr fFreeM m m1) : ptM m1 := fun q hq => by
  have hq2 : ∀ q ∈ mPt, fFreeM.all (fun r => r.1 != aM || (r.2 != none && r.2 != some q.1)) = true := by decide
  rw [zfr_at b (hq2 q hq)]
  exact h q hq
theorem mI_mt {m m' : zM} (h : mI m) (f : zfr fFreeM m m') (hq : ∀ x, (x < 0 ∨ 12 ≤ x) → m' a_mate x = 0) : mI m' := by
  obtain ⟨h1, ⟨h2, h3⟩, ⟨h4, h5⟩, h6, h7, h8, h9, h10⟩ := h
  have e : mT m' = mT m := mT_fr f (by decide)
  refine ⟨mOK_of h1 e (ptM_F h1.1 f) hq, ⟨?_, fun hl => ?_⟩, ⟨?_, fun hl => ?_⟩, ?_, ?_, ?_, ?_, ?_⟩
  · rw [zfr_at (j := f_isLaid) f (by decide)]; exact h2
  · rw [zfr_at (j := f_isLaid) f (by decide)] at hl
    exact mL_of (h3 hl) e (zfr_at f (by decide)) (zfr_cell f (by decide)) (zfr_cell f (by decide)) (zfr_cell f (by decide)) (zfr_cell f (by decide))
  · rw [zfr_at (j := f_isNamed) f (by decide)]; exact h4
  · rw [zfr_at (j := f_isNamed) f (by decide)] at hl
    exact mN_of (h5 hl) e (zfr_at f (by decide)) (zfr_cell f (by decide)) (zfr_cell f (by decide))
  · unfold mPl; rw [zfr_cell (a := a_places) f (by decide)]; exact h6
  · rw [zfr_cell (a := a_worths) f (by decide)]; exact h7
  · rw [zfr_at (j := f_taped) f (by decide)]; exact h8
  · rw [zfr_at (j := f_outMany) f (by decide)]; exact h9
  · unfold mWd; rw [zfr_cell (a := a_words) f (by decide)]; exact h10
theorem mI_fr {m m' : zM} (h : mI m) (f : zfr fFree m m') : mI m' := mI_mt h (zfr_sub f (by decide)) (fun x hx => by rw [zfr_cell (a := a_mate) f (by decide)]; exact h.1.2.2.2.2 x hx)
abbrev mS (m : zM) (w : Int) : zM := zu (zu m aM f_thrown 0) aM f_status w
theorem fr_S {F : List (Int × Option Int)} {m : zM} {w : Int} (h1 : (aM, some f_thrown) ∈ F) (h2 : (aM, some f_status) ∈ F) : zfr F m (mS m w) := zfr_uj (zfr_uj zfr_rf h1) h2
theorem mI_S {m : zM} {w : Int} (h : mI m) : mI (mS m w) := mI_fr h (fr_S (by decide) (by decide))
theorem mI_lays {m m' : zM} (h : mI m) (f : zfr fLays m m') (i : m' aM f_isLaid = 1) (hL : mL m') (hk : mOK m') : mI m' := by
  obtain ⟨h1, ⟨h2, h3⟩, ⟨h4, h5⟩, h6, h7, h8, h9, h10⟩ := h
  refine ⟨hk, ⟨Or.inr i, fun _ => hL⟩, ⟨?_, fun hl => ?_⟩, ?_, ?_, ?_, ?_, ?_⟩
  · rw [zfr_at (j := f_isNamed) f (by decide)]; exact h4
  · rw [zfr_at (j := f_isNamed) f (by decide)] at hl
    exact mN_kept f (h5 hl)
  · unfold mPl; rw [zfr_cell (a := a_places) f (by decide)]; exact h6
  · rw [zfr_cell (a := a_worths) f (by decide)]; exact h7
  · rw [zfr_at (j := f_taped) f (by decide)]; exact h8
  · rw [zfr_at (j := f_outMany) f (by decide)]; exact h9
  · unfold mWd; rw [zfr_cell (a := a_words) f (by decide)]; exact h10
theorem mI_names {m m' : zM} (h : mI m) (f : zfr fNames m m') (i : m' aM f_isLaid = 1) (i2 : m' aM f_isNamed = 1) (hL : mL m') (hk : mOK m') (hN : mN m') (hp : mPl m') : mI m' := by
  obtain ⟨h1, ⟨h2, h3⟩, ⟨h4, h5⟩, h6, h7, h8, h9, h10⟩ := h
  refine ⟨hk, ⟨Or.inr i, fun _ => hL⟩, ⟨Or.inr i2, fun _ => hN⟩, hp, ?_, ?_, ?_, ?_⟩
  · rw [zfr_cell (a := a_worths) f (by decide)]; exact h7
  · rw [zfr_at (j := f_taped) f (by decide)]; exact h8
  · rw [zfr_at (j := f_outMany) f (by decide)]; exact h9
  · unfold mWd; rw [zfr_cell (a := a_words) f (by decide)]; exact h10
/-- what the rule gives, at hand -/
theorem mI_wl {m : zM} (h : mI m) : wfC (m a_c) ∧ wfL (m a_c) (m a_what) (m a_pointOf) (m aM f_letters) ∧ (0 ≤ m aM f_letters ∧ m aM f_letters ≤ 12) := by
  have hl := flat_wfL h.1.2.1 h.1.2.2.1 h.1.2.2.2.1
  exact ⟨h.1.2.1, hl, hl.1⟩
theorem mL_len {m : zM} (hk : mOK m) (h : mL m) : m aM f_laid = ((tPairs (mT m)).length : Int) ∧ (0 ≤ m aM f_laid ∧ m aM f_laid ≤ 10395) ∧ (tPairs (mT m)).length = (m aM f_laid).toNat := by
  have h0 := h.1
  rw [tPairs_m] at h0
  have hl := flat_wfL hk.2.1 hk.2.2.1 hk.2.2.2.1
  have hn : m aM f_letters ≤ 12 := hl.1.2
  have hb : (tPairs (mT m)).length ≤ 10395 := sLay_le (n := (m aM f_letters).toNat) (by omega) _ _ _
  exact ⟨h0, by omega, by omega⟩
theorem mL_row {m : zM} (h : mL m) (t : Nat) (mt : Int → Int) (ht : (tPairs (mT m))[t]? = some mt) : (∀ k, 0 ≤ k → k < m aM f_letters → m a_table (12 * (t : Int) + k) = mt k) ∧ m a_sign t = tSign (mT m) mt ∧ m a_crossings t = tCr (mT m) mt ∧ m a_rounds t = tRo (mT m) mt := h.2 t mt ht
theorem mP_full {m : zM} (hk : mOK m) : ∀ mt ∈ tPairs (mT m), sFull (m aM f_letters).toNat (cMay (m a_c) (m a_what) (m a_pointOf)) mt := by
  have hl := flat_wfL hk.2.1 hk.2.2.1 hk.2.2.2.1
  exact sPair_full hl.1.1 hl.1.2
theorem mN_D {m : zM} (h : mN m) : m aM f_diagrams = ((tD (mT m)).length : Int) ∧ (tD (mT m)).length ≤ 10395 ∧ (∀ x : Int, 0 ≤ x → x < (tD (mT m)).length → m a_names x = tNm (mT m) x) ∧ ∀ (t : Nat) (mt : Int → Int), (tPairs (mT m))[t]? = some mt → 0 ≤ m a_diagramOf t ∧ m a_diagramOf t < (tD (mT m)).length ∧ ∀ d : Int, 0 ≤ d → d < (tD (mT m)).length → (m a_diagramOf t = d ↔ tName (mT m) mt = tNm (mT m) d) := by
  obtain ⟨D, h1, h2, h3, h4, h5⟩ := h
  have hm : ∀ v : Int, (∃ x : Int, 0 ≤ x ∧ x < D ∧ m a_names x = v) ↔ v ∈ tD (mT m) := fun v => by
    rw [h4 v]
    unfold tD
    rw [sSet_mem, List.mem_map]
    constructor
    · rintro ⟨mt, g1, g2⟩; exact ⟨mt, g1, g2⟩
    · rintro ⟨mt, g1, g2⟩; exact ⟨mt, g1, g2⟩
  obtain ⟨e1, e2⟩ := rise_row h3 (sSet_rise _) hm
  have e1 : D = (tD (mT m)).length := e1
  refine ⟨by rw [h1, ← e1], by omega, fun x q0 q1 => e2 x q0 (by omega), fun t mt ht => ?_⟩
  obtain ⟨g1, g2, g3⟩ := h5 t mt ht
  refine ⟨g1, by omega, fun d q0 q1 => ?_⟩
  rw [e2 _ g1 g2] at g3
  rw [← tName_m, ← g3]
  constructor
  · intro e; rw [e]; rfl
  · intro e; exact lf_inj (sSet_rise _) g1 (by rw [e1] at g2; exact g2) q0 q1 e
theorem tD_row {m : zM} (hk : mOK m) {d : Int} (h0 : 0 ≤ d) (h1 : d < (tD (mT m)).length) : ∃ g, tNm (mT m) d = sPk g (tH (mT m)) ∧ cRow (m a_c) g (tH (mT m)) := by
  have hl := flat_wfL hk.2.1 hk.2.2.1 hk.2.2.2.1
  have hm := lf_mem h0 h1
  unfold tD at hm
  rw [sSet_mem, List.mem_map] at hm
  obtain ⟨mt, g1, g2⟩ := hm
  obtain ⟨g, k1, k2⟩ := sKeyOf_ok hk.2.1 hl (mP_full hk mt g1)
  have g2 : tName (mT m) mt = tNm (mT m) d := g2
  obtain ⟨g', k3, k4⟩ := sNM_row hk.2.1 k2
  refine ⟨g', ?_, k4⟩
  rw [← g2]
  unfold tName
  have k1 : sKeyOf (mT m).1 (mT m).2.1 (mT m).2.2.1 (mT m).2.2.2 mt = sPk g ((mT m).2.2.2 / 2).toNat := k1
  rw [k1]
  exact k3
/-- the codes of a diagram's name are lawful, and rise -/
theorem tCo_row {m : zM} (hk : mOK m) {d : Int} (h0 : 0 ≤ d) (h1 : d < (tD (mT m)).length) : cRow (m a_c) (tCo (mT m) d) (tH (mT m)) := by
  obtain ⟨g, e, hr⟩ := tD_row hk h0 h1
  have key : ∀ i : Int, 0 ≤ i → i < tH (mT m) → tCo (mT m) d i = g i := fun i q1 q2 => by
    unfold tCo
    rw [e]
    exact uF_eq (cRow_rg hk.2.1 hr) q1 q2
  refine ⟨fun i q1 q2 => by rw [key i q1 q2]; exact hr.1 i q1 q2, fun i j q0 q1 q2 => ?_⟩
  rw [key i q0 (by omega), key j (by omega) q2]
  exact hr.2 i j q0 q1 q2
