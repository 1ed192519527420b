/-! the table of diagrams in the model's words -/
noncomputable def fxV (T : zT) (v : Int) : Int := sSame v (sPlc (T.1 2).toNat (cAlike T.1) (sV T.1 (uF v (tH T)) (tH T)) (T.1 2).toNat 0 0 (fun _ => 0))
noncomputable def lkV (T : zT) (v : Int) : Nat := if tLost T.1 (tH T) (uF v (tH T)) (tAll T.1) = 0 then 1 else 0
noncomputable def paV (T : zT) (v : Int) : Nat := tParts (tH T) (uF v (tH T)) (-1) (tAll T.1)
noncomputable def loV (T : zT) (v : Int) : Nat := (tLoops T.1 (tH T) (uF v (tH T))).toNat
noncomputable def brV (T : zT) (v : Int) : Nat := (tBridges T.1 (tH T) (uF v (tH T))).toNat
def riV (T : zT) (v : Int) : Nat := (tRings (tH T) (uF v (tH T))).toNat
noncomputable def shV (T : zT) (v : Int) : Nat := shN (lkV T v) (paV T v) (loV T v) (brV T v) (riV T v)
noncomputable def fiV (T : zT) (v : Int) : Int := zfst (fun k => decide (tName T (tMt T k) = v)) (tPairs T).length 0
def dQ (m : zM) (b : Int) (T : zT) (i v : Int) : Prop := m b i = v ∧ m (b + 1) i = lS (fun r => zb (tName T r = v)) (tPairs T) ∧ m (b + 2) i = lS (fun r => if tName T r = v then tSign T r else 0) (tPairs T) ∧ m (b + 3) i = fiV T v ∧ (m (b + 4) i = fxV T v ∨ m (b + 4) i = fxV T v + (shV T v : Int))
def dG (m : zM) (b : Int) (T : zT) (D : List Int) : Prop := (D.Nodup ∧ ∀ v, v ∈ D ↔ ∃ r ∈ tPairs T, tName T r = v) ∧ (∀ (i : Nat) (v : Int), D[i]? = some v → dQ m b T (i : Int) v) ∧ (∀ (k : Nat) (r : Int → Int), (tPairs T)[k]? = some r → ∃ i : Nat, m (b + 7) (k : Int) = (i : Int) ∧ D[i]? = some (tName T r)) ∧ m 14 18 = (D.length : Int) ∧ D.length ≤ (tPairs T).length ∧ pmI (m (b + 5)) D.length ∧ (∀ i k : Nat, i < k → k < D.length → m b (m (b + 5) (i : Int)) ≤ m b (m (b + 5) (k : Int))) ∧ ∀ x : Nat, x < D.length → m (b + 6) (m (b + 5) (x : Int)) = (x : Int)
theorem tMt_at {T : zT} {k : Nat} {r : Int → Int} (h : (tPairs T)[k]? = some r) : tMt T (k : Int) = r := by
  unfold tMt
  rw [Int.toNat_natCast, List.getD_eq_getElem?_getD, h]
  rfl
theorem dG_of {m : zM} {b ka : Int} {e : Nat} {T : zT} {D : List Int} {F : Int → Int} {cc : Int} (hw : wfC T.1) (hl : wfL T.1 T.2.1 T.2.2.1 T.2.2.2) (h : dRw m b ka e T D F cc) : dG m b T D := by
  obtain ⟨hB, hK, hD, hDl, hS, hp, ho, hr⟩ := h
  have hn := hl.1
  refine ⟨⟨hB.1, hB.2.1⟩, fun i v hv => ?_, hS.2, hD, hDl, hp, ho, hr⟩
  obtain ⟨h1, h2, h3, k, r, h4, h5, h6, h7, h8⟩ := hS.1 i v hv
  refine ⟨h1, h2, h3, ?_, Or.inl ?_⟩
  · have hk : k < (tPairs T).length := (List.getElem?_eq_some_iff.mp h5).1
    rw [h4]
    unfold fiV
    have hz := zfst_at (p := fun k => decide (tName T (tMt T k) = v)) (n := k) (N := (tPairs T).length) (fun j hj => by
      have hj2 : (tPairs T)[j]? = some ((tPairs T)[j]'(by omega)) := List.getElem?_eq_getElem (by omega)
      show decide (tName T (tMt T (j : Int)) = v) = false
      rw [decide_eq_false_iff_not, tMt_at hj2]
      exact h7 j _ hj hj2) (by
      show decide (tName T (tMt T (k : Int)) = v) = true
      rw [decide_eq_true_eq, tMt_at h5]
      exact h6) hk
    exact hz.symm
  · rw [h8, fx_is hw hl (tP_full (by omega) (List.mem_of_getElem? h5)), h6]
    rfl
theorem dG_fr {m m' : zM} {b : Int} {T : zT} {D : List Int} (h : dG m b T D) (e : ∀ x i : Int, 0 ≤ x → x < 8 → m' (b + x) i = m (b + x) i) (e2 : m' 14 18 = m 14 18) : dG m' b T D := by
  have e0 : ∀ i, m' b i = m b i := fun i => by have := e 0 i (by decide) (by decide); rw [Int.add_zero] at this; exact this
  have e1 := fun i => e 1 i (by decide) (by decide)
  have e2' := fun i => e 2 i (by decide) (by decide)
  have e3 := fun i => e 3 i (by decide) (by decide)
  have e4 := fun i => e 4 i (by decide) (by decide)
  have e5 := fun i => e 5 i (by decide) (by decide)
  have e6 := fun i => e 6 i (by decide) (by decide)
  have e7 := fun i => e 7 i (by decide) (by decide)
  have e5f : m' (b + 5) = m (b + 5) := funext e5
  unfold dG dQ at *
  simp only [e0, e1, e2', e3, e4, e5f, e6, e7, e2]
  exact h
/-- a place's traits are filled in -/
theorem dG_sh {m : zM} {b : Int} {T : zT} {D : List Int} {i : Nat} {v : Int} (h : dG m b T D) (hv : D[i]? = some v) (hb : 24 < b) : dG (zu m (b + 4) (i : Int) (fxV T v + (shV T v : Int))) b T D := by
  obtain ⟨h0, h1, h2, h3, h4, h5, h6, h7⟩ := h
  have o : ∀ x j : Int, x ≠ b + 4 → zu m (b + 4) (i : Int) (fxV T v + (shV T v : Int)) x j = m x j := fun x j hx => zu_a hx
  refine ⟨h0, fun j u hu => ?_, fun k r hr => ?_, ?_, h4, ?_, fun j k a1 a2 => ?_, fun x hx => ?_⟩
  · obtain ⟨q1, q2, q3, q4, q5⟩ := h1 j u hu
    refine ⟨by rw [o _ _ (by omega)]; exact q1, by rw [o _ _ (by omega)]; exact q2, by rw [o _ _ (by omega)]; exact q3, by rw [o _ _ (by omega)]; exact q4, ?_⟩
    by_cases e : j = i
    · have : v = u := by rw [e, hv] at hu; injection hu
      rw [e, zu_s, this]
      exact Or.inr rfl
    · rw [zu_j (by omega)]; exact q5
  · rw [o _ _ (by omega)]; exact h2 k r hr
  · rw [o _ _ (by omega)]; exact h3
  · rw [show zu m (b + 4) (i : Int) (fxV T v + (shV T v : Int)) (b + 5) = m (b + 5) from funext fun j => o _ j (by omega)]; exact h5
  · have ob : ∀ j, zu m (b + 4) (i : Int) (fxV T v + (shV T v : Int)) b j = m b j := fun j => o _ j (by omega)
    have o5 : ∀ j, zu m (b + 4) (i : Int) (fxV T v + (shV T v : Int)) (b + 5) j = m (b + 5) j := fun j => o _ j (by omega)
    rw [ob, ob, o5, o5]
    exact h6 j k a1 a2
  · have o5 : ∀ j, zu m (b + 4) (i : Int) (fxV T v + (shV T v : Int)) (b + 5) j = m (b + 5) j := fun j => o _ j (by omega)
    rw [o5, o _ _ (by omega)]
    exact h7 x hx
/-- by number -/
theorem dG_ord {m : zM} {b : Int} {T : zT} {D : List Int} (h : dG m b T D) : D.length = (tD T).length ∧ ∀ x : Nat, x < D.length → ∃ i : Nat, m (b + 5) (x : Int) = (i : Int) ∧ i < D.length ∧ D[i]? = some (tNm T (x : Int)) ∧ m (b + 6) (i : Int) = (x : Int) := by
  obtain ⟨h0, h1, h2, h3, h4, h5, h6, h7⟩ := h
  have key : ∀ x : Nat, x < D.length → ∃ i : Nat, m (b + 5) (x : Int) = (i : Int) ∧ i < D.length ∧ D[i]? = some (m b (m (b + 5) (x : Int))) := fun x hx => by
    have a := h5.1 x hx
    obtain ⟨i, hi⟩ := Int.eq_ofNat_of_zero_le a.1
    have hid : i < D.length := by omega
    have hd : D[i]? = some (D[i]'hid) := List.getElem?_eq_getElem hid
    refine ⟨i, hi, hid, ?_⟩
    rw [hi, (h1 i _ hd).1]
    exact hd
  have inc : sInc (fun x => m b (m (b + 5) x)) D.length := fun x y x0 xy y1 => by
    have a := h6 x.toNat y.toNat (by omega) (by omega)
    rw [show ((x.toNat : Nat) : Int) = x by omega, show ((y.toNat : Nat) : Int) = y by omega] at a
    obtain ⟨i, i1, i2, i3⟩ := key x.toNat (by omega)
    obtain ⟨j, j1, j2, j3⟩ := key y.toNat (by omega)
    rw [show ((x.toNat : Nat) : Int) = x by omega] at i1 i3
    rw [show ((y.toNat : Nat) : Int) = y by omega] at j1 j3
    rcases Int.lt_or_le (m b (m (b + 5) x)) (m b (m (b + 5) y)) with z | z
    · exact z
    · have e : m b (m (b + 5) x) = m b (m (b + 5) y) := by omega
      have e2 : i = j := nodup_at h0.1 i3 (by rw [e]; exact j3)
      have := h5.2 x.toNat y.toNat (by omega) (by omega) (by rw [show ((x.toNat : Nat) : Int) = x by omega, show ((y.toNat : Nat) : Int) = y by omega, i1, j1, e2])
      omega
  have hsur : ∀ v : Int, (∃ x : Int, 0 ≤ x ∧ x < D.length ∧ m b (m (b + 5) x) = v) ↔ v ∈ tD T := fun v => by
    unfold tD
    rw [sSet_mem, List.mem_map]
    have hvD : v ∈ D ↔ ∃ r ∈ tPairs T, tName T r = v := h0.2 v
    constructor
    · rintro ⟨x, x0, x1, ex⟩
      obtain ⟨i, i1, i2, i3⟩ := key x.toNat (by omega)
      rw [show ((x.toNat : Nat) : Int) = x by omega, ex] at i3
      obtain ⟨r, r1, r2⟩ := hvD.mp (List.mem_of_getElem? i3)
      exact ⟨r, r1, r2⟩
    · rintro ⟨r, r1, r2⟩
      obtain ⟨i, hi⟩ := List.mem_iff_getElem?.mp (hvD.mpr ⟨r, r1, r2⟩)
      have hid : i < D.length := (List.getElem?_eq_some_iff.mp hi).1
      apply Classical.byContradiction
      intro hne
      have hno : ∀ x : Int, 0 ≤ x → x < D.length → m (b + 5) x ≠ (i : Int) := fun x x0 x1 e => hne ⟨x, x0, x1, by rw [e]; exact (h1 i v hi).1⟩
      have e1 : zsum (fun x => zsum (fun v => zb (v = m (b + 5) x)) D.length 0) D.length 0 = zsum (fun _ => 1) D.length 0 := zsum_congr (fun x x0 x1 => by
        have a := h5.1 x.toNat (by omega)
        rw [show ((x.toNat : Nat) : Int) = x by omega] at a
        exact zsum_ind a.1 (by omega))
      rw [zsum_swap (fun x v => zb (v = m (b + 5) x)), zsum_k1] at e1
      have e2 : zsum (fun v => zsum (fun x => zb (v = m (b + 5) x)) D.length 0) D.length 0 ≤ zsum (fun v => 1 - zb (v = (i : Int))) D.length 0 := zsum_le (fun u u0 u1 => by
        by_cases z : ∃ x : Int, 0 ≤ x ∧ x < D.length ∧ m (b + 5) x = u
        · obtain ⟨x, x0, x1, ex⟩ := z
          have : zsum (fun x => zb (u = m (b + 5) x)) D.length 0 = zsum (fun u => zb (u = x)) D.length 0 := zsum_congr (fun w w0 w1 => zb_congr ⟨fun e => by
            have := h5.2 w.toNat x.toNat (by omega) (by omega) (by rw [show ((w.toNat : Nat) : Int) = w by omega, show ((x.toNat : Nat) : Int) = x by omega, ← e, ex])
            omega, fun e => by rw [e, ex]⟩)
          rw [this, zsum_ind x0 (by omega), zb_f (fun e => hno x x0 x1 (by rw [ex, e]))]
          decide
        · rw [zsum_z (fun w w0 w1 => zb_f (fun e => z ⟨w, w0, by omega, e.symm⟩))]
          have := zb01 (u = (i : Int))
          omega)
      rw [zsum_sub (fun _ => 1), zsum_k1, zsum_ind (by omega) (by omega)] at e2
      omega
  obtain ⟨a1, a2⟩ := rise_row inc (sSet_rise _) hsur
  refine ⟨a1, fun x hx => ?_⟩
  obtain ⟨i, i1, i2, i3⟩ := key x hx
  refine ⟨i, i1, i2, ?_, ?_⟩
  · rw [i3]
    exact congrArg some (a2 (x : Int) (by omega) (by omega))
  · rw [← i1]; exact h7 x hx
theorem dG_rk {m : zM} {b : Int} {T : zT} {D : List Int} (h : dG m b T D) {i : Nat} {v : Int} (hv : D[i]? = some v) : ∃ x : Nat, m (b + 6) (i : Int) = (x : Int) ∧ x < D.length ∧ m (b + 5) (x : Int) = (i : Int) ∧ tNm T (x : Int) = v ∧ tIx T v = (x : Int) := by
  obtain ⟨e, ho⟩ := dG_ord h
  have hm : v ∈ tD T := by
    unfold tD
    rw [sSet_mem, List.mem_map]
    obtain ⟨r, r1, r2⟩ := (h.1.2 v).mp (List.mem_of_getElem? hv)
    exact ⟨r, r1, r2⟩
  obtain ⟨x, hx⟩ := List.mem_iff_getElem?.mp hm
  have hxl : x < (tD T).length := (List.getElem?_eq_some_iff.mp hx).1
  have hnm : tNm T (x : Int) = v := by
    unfold tNm lf
    rw [Int.toNat_natCast, List.getD_eq_getElem?_getD, hx]
    rfl
  obtain ⟨j, j1, j2, j3, j4⟩ := ho x (by omega)
  have : j = i := nodup_at h.1.1 j3 (by rw [hnm]; exact hv)
  rw [this] at j1 j4
  refine ⟨x, j4, by omega, j1, hnm, ?_⟩
  unfold tIx
  refine zfst_at (n := x) (fun y hy => ?_) (by rw [decide_eq_true_eq]; exact hnm) hxl
  rw [decide_eq_false_iff_not]
  intro z
  have := lf_inj (sSet_rise ((tPairs T).map (tName T))) (x := (y : Int)) (y := (x : Int)) (by omega) (by have : (tD T).length = (sSet ((tPairs T).map (tName T))).length := rfl; omega) (by omega) (by have : (tD T).length = (sSet ((tPairs T).map (tName T))).length := rfl; omega) (by
    have e1 : tNm T (y : Int) = lf (sSet ((tPairs T).map (tName T))) (y : Int) := rfl
    have e2 : tNm T (x : Int) = lf (sSet ((tPairs T).map (tName T))) (x : Int) := rfl
    rw [← e1, ← e2, z, hnm])
  omega
/-- sums by places are sums by numbers -/
theorem dG_sum {m : zM} {b : Int} {T : zT} {D : List Int} (h : dG m b T D) (H G : Int → Int) (e : ∀ (i : Nat) (x : Nat), i < D.length → x < D.length → m (b + 5) (x : Int) = (i : Int) → H (i : Int) = G (x : Int)) : zsum H D.length 0 = zsum G (tD T).length 0 := by
  obtain ⟨el, ho⟩ := dG_ord h
  rw [← el, ← zsum_bij (σ := m (b + 5)) (τ := m (b + 6)) (G := H) (fun x x0 x1 => ?_) (fun y y0 y1 => ?_)]
  · refine zsum_congr (fun x x0 x1 => ?_)
    obtain ⟨i, i1, i2, -, -⟩ := ho x.toNat (by omega)
    have := e i x.toNat i2 (by omega) i1
    rw [show ((x.toNat : Nat) : Int) = x by omega] at i1 this
    show H (m (b + 5) x) = G x
    rw [i1]; exact this
  · obtain ⟨i, i1, i2, -, i4⟩ := ho x.toNat (by omega)
    rw [show ((x.toNat : Nat) : Int) = x by omega] at i1 i4
    rw [i1]
    exact ⟨by omega, i4⟩
  · have hd : D[y.toNat]? = some (D[y.toNat]'(by omega)) := List.getElem?_eq_getElem (by omega)
    obtain ⟨x, a1, a2, a3, -⟩ := dG_rk h hd
    rw [show ((y.toNat : Nat) : Int) = y by omega] at a1 a3
    rw [a1]
    exact ⟨by omega, a3⟩
/-- a name is a row of lawful codes -/
theorem nm_row {T : zT} (hw : wfC T.1) (hl : wfL T.1 T.2.1 T.2.2.1 T.2.2.2) {v : Int} (h : ∃ r ∈ tPairs T, tName T r = v) : v = sPk (uF v (tH T)) (tH T) ∧ cRow T.1 (uF v (tH T)) (tH T) ∧ gOn (tH T) (gFr (uF v (tH T))) (gTo (uF v (tH T))) (tAll T.1) := by
  obtain ⟨r, r1, r2⟩ := h
  have hn := hl.1
  obtain ⟨g, g1, g2, g3⟩ := row_g hw hl (tP_full (by omega) r1)
  obtain ⟨gN, n1, n2⟩ := sNM_row hw g2
  have en : v = sPk gN (tH T) := by rw [← n1, ← g1, ← r2]; rfl
  have eu : ∀ i : Int, 0 ≤ i → i < tH T → uF v (tH T) i = gN i := fun i i0 i1 => by
    rw [en]
    exact uF_eq (cRow_rg hw n2) i0 i1
  have hr : cRow T.1 (uF v (tH T)) (tH T) := ⟨fun i i0 i1 => by rw [eu i i0 i1]; exact n2.1 i i0 i1, fun i j i0 ij j1 => by rw [eu i i0 (by omega), eu j (by omega) j1]; exact n2.2 i j i0 ij j1⟩
  refine ⟨by rw [sPk_congr eu]; exact en, hr, ?_, fun k hk => ?_⟩
  · have hc2 := hw.2.2.1
    unfold tAll
    have := Nat.pow_le_pow_right (n := 2) (by decide) (show (T.1 2).toNat ≤ 8 by omega)
    have := Nat.two_pow_pos (T.1 2).toNat
    omega
  · have hg := cCodeOk_rg hw (hr.1 (k : Int) (by omega) (by omega))
    unfold tAll gFr gTo
    rw [Nat.testBit_two_pow_sub_one, Nat.testBit_two_pow_sub_one, decide_eq_true_eq, decide_eq_true_eq]
    omega
/-- the traits' bounds -/
theorem shV_rg {T : zT} (hw : wfC T.1) (hl : wfL T.1 T.2.1 T.2.2.1 T.2.2.2) {v : Int} (h : ∃ r ∈ tPairs T, tName T r = v) : lkV T v ≤ 1 ∧ paV T v ≤ 8 ∧ loV T v ≤ 6 ∧ brV T v ≤ 6 ∧ riV T v ≤ 6 ∧ 0 ≤ tLoops T.1 (tH T) (uF v (tH T)) ∧ 0 ≤ tBridges T.1 (tH T) (uF v (tH T)) ∧ 0 ≤ tRings (tH T) (uF v (tH T)) := by
  obtain ⟨-, -, hg⟩ := nm_row hw hl h
  have hn := hl.1
  have hH : (tH T : Int) ≤ 6 := by unfold tH; omega
  have a := loops_rg hw.2.2.1 hg
  have b : 0 ≤ tBridges T.1 (tH T) (uF v (tH T)) ∧ tBridges T.1 (tH T) (uF v (tH T)) ≤ 1 * (tH T : Int) := ⟨zsum_nn (fun k _ _ => by have := zb01 ((tParts (tH T) (uF v (tH T)) (-1) (tAll T.1) : Int) < tParts (tH T) (uF v (tH T)) k (tAll T.1)); omega), by
    have := zsum_bd (f := fun k => zb ((tParts (tH T) (uF v (tH T)) (-1) (tAll T.1) : Int) < tParts (tH T) (uF v (tH T)) k (tAll T.1))) (b := 1) (j := tH T) (k := 0) (fun k _ _ => by have := zb01 ((tParts (tH T) (uF v (tH T)) (-1) (tAll T.1) : Int) < tParts (tH T) (uF v (tH T)) k (tAll T.1)); omega)
    unfold tBridges
    omega⟩
  have c : 0 ≤ tRings (tH T) (uF v (tH T)) ∧ tRings (tH T) (uF v (tH T)) ≤ 1 * (tH T : Int) := ⟨zsum_nn (fun k _ _ => by have := zb01 (uF v (tH T) k / 100 = uF v (tH T) k / 10 % 10); omega), by
    have := zsum_bd (f := fun k => zb (uF v (tH T) k / 100 = uF v (tH T) k / 10 % 10)) (b := 1) (j := tH T) (k := 0) (fun k _ _ => by have := zb01 (uF v (tH T) k / 100 = uF v (tH T) k / 10 % 10); omega)
    unfold tRings
    omega⟩
  refine ⟨?_, ?_, ?_, ?_, ?_, a.1, b.1, c.1⟩
  · unfold lkV; split <;> omega
  · unfold paV; omega
  · unfold loV; omega
  · unfold brV; omega
  · unfold riV; omega
theorem fxV_rg {T : zT} (hw : wfC T.1) (hl : wfL T.1 T.2.1 T.2.2.1 T.2.2.2) (hV : zsum (fun p => zb (T.1 (32 + 9 * p + 1) = 1)) (T.1 2).toNat 0 ≤ 5) {v : Int} (h : ∃ r ∈ tPairs T, tName T r = v) : 0 ≤ fxV T v ∧ fxV T v ≤ 120 := by
  obtain ⟨-, hr, -⟩ := nm_row hw hl h
  unfold fxV
  rw [plc_all hw hr.1]
  have := sSame_bd v (imgs T (uF v (tH T)))
  have h2 := allCh_len hV
  have h3 : (imgs T (uF v (tH T))).length = (allCh T.1).length := by unfold imgs; rw [List.length_map]
  omega
