/-! the diagrams, as they are met -/
def rowF (T : zT) (r : Int → Int) : Int → Int := lf (sCL T.2.2.2.toNat (cCode T.1 T.2.1 T.2.2.1) r T.2.2.2.toNat 0)
def orb (T : zT) (r : Int → Int) (v : Int) : Prop := ∃ π, gPA T.1 π ∧ v = sV T.1 (rowF T r) (tH T) π
noncomputable def tKy (T : zT) (r : Int → Int) : Int := sKeyOf T.1 T.2.1 T.2.2.1 T.2.2.2 r
theorem sV_pm {c f g π : Int → Int} {h : Nat} (e : pm g f h) : sV c g h π = sV c f h π := by
  unfold sV
  exact sKey_pm (pm_map (cImg c π) e)
theorem row_g {T : zT} (hw : wfC T.1) (hl : wfL T.1 T.2.1 T.2.2.1 T.2.2.2) {r : Int → Int} (h : sFull T.2.2.2.toNat (cMay T.1 T.2.1 T.2.2.1) r) : ∃ g, tKy T r = sPk g (tH T) ∧ cRow T.1 g (tH T) ∧ pm g (rowF T r) (tH T) := sKey_row (fun _ i0 i1 => lf_ok hw hl h i0 i1)
theorem orb_key {T : zT} (hw : wfC T.1) (hl : wfL T.1 T.2.1 T.2.2.1 T.2.2.2) {r : Int → Int} (h : sFull T.2.2.2.toNat (cMay T.1 T.2.1 T.2.2.1) r) : orb T r (tKy T r) := by
  obtain ⟨g, g1, g2, g3⟩ := row_g hw hl h
  exact ⟨fun x => x, gPA_id, by rw [← sV_pm g3, sV_id g2, g1]⟩
/-- a key within another's images: the same images, the same name -/
theorem orb_same {T : zT} (hw : wfC T.1) (hl : wfL T.1 T.2.1 T.2.2.1 T.2.2.2) {r s : Int → Int} (h : sFull T.2.2.2.toNat (cMay T.1 T.2.1 T.2.2.1) r) (k : sFull T.2.2.2.toNat (cMay T.1 T.2.1 T.2.2.1) s) (ho : orb T r (tKy T s)) : (∀ v, orb T s v → orb T r v) ∧ tName T s = tName T r := by
  obtain ⟨g, g1, g2, g3⟩ := row_g hw hl h
  obtain ⟨f, f1, f2, f3⟩ := row_g hw hl k
  obtain ⟨π, p1, p2⟩ := ho
  have e : sPk f (tH T) = sV T.1 g (tH T) π := by rw [← f1, p2, sV_pm g3]
  refine ⟨fun v hv => ?_, ?_⟩
  · obtain ⟨σ, s1, s2⟩ := hv
    obtain ⟨τ, t1, t2⟩ := (orb_to hw g2 f2 p1 e).1 σ s1
    exact ⟨τ, t1, by rw [s2, ← sV_pm f3, t2, sV_pm g3]⟩
  · have := orb_nm hw g2 f2 p1 e
    rw [← f1, ← g1] at this
    exact this
theorem orb_of {T : zT} (hw : wfC T.1) (hl : wfL T.1 T.2.1 T.2.2.1 T.2.2.2) {r s : Int → Int} (h : sFull T.2.2.2.toNat (cMay T.1 T.2.1 T.2.2.1) r) (k : sFull T.2.2.2.toNat (cMay T.1 T.2.1 T.2.2.1) s) (e : tName T s = tName T r) : orb T r (tKy T s) := by
  obtain ⟨g, g1, g2, g3⟩ := row_g hw hl h
  obtain ⟨f, f1, f2, f3⟩ := row_g hw hl k
  have e2 : sNM T.1 (tH T) (sPk f (tH T)) = sNM T.1 (tH T) (sPk g (tH T)) := by rw [← f1, ← g1]; exact e
  obtain ⟨π, p1, p2⟩ := orb_fr hw g2 f2 e2
  exact ⟨π, p1, by rw [f1, p2, sV_pm g3]⟩
/-- the name is the least of the images -/
theorem lM_nm {T : zT} (hw : wfC T.1) (hl : wfL T.1 T.2.1 T.2.2.1 T.2.2.2) {r : Int → Int} (h : sFull T.2.2.2.toNat (cMay T.1 T.2.1 T.2.2.1) r) {vs : List Int} (hv : ∀ v, v ∈ vs ↔ orb T r v) : lM (tKy T r) vs = tName T r := by
  obtain ⟨g, g1, g2, g3⟩ := row_g hw hl h
  obtain ⟨⟨a, a1, a2⟩, a3⟩ := sNM_is hw g2
  have en : tName T r = sNM T.1 (tH T) (sPk g (tH T)) := by rw [← g1]; rfl
  obtain ⟨b1, b2, b3⟩ := lM_is vs (tKy T r)
  have m1 : lM (tKy T r) vs ∈ vs := by
    rcases b1 with z | z
    · rw [z]; exact (hv _).mpr (orb_key hw hl h)
    · exact z
  obtain ⟨π, p1, p2⟩ := (hv _).mp m1
  have c1 := a3 π p1
  rw [sV_pm g3, ← p2, ← en] at c1
  have c2 := b3 (tName T r) ((hv _).mpr ⟨a, a1, by rw [en, a2, sV_pm g3]⟩)
  omega
/-- after the first rows R: names D by places, marks F -/
def bS (T : zT) (R : zLr) (D : List Int) (F : Int → Int) : Prop := D.Nodup ∧ (∀ v, v ∈ D ↔ ∃ r ∈ R, tName T r = v) ∧ (∀ v, F v ≠ -1 → ∃ i : Nat, F v = (i : Int) ∧ ∃ r ∈ R, orb T r v ∧ D[i]? = some (tName T r)) ∧ ∀ v, (∃ r ∈ R, orb T r v) → F v ≠ -1
theorem bS_0 (T : zT) : bS T [] [] (fun _ => -1) := by
  refine ⟨List.nodup_nil, fun v => ⟨fun h => ?_, fun h => ?_⟩, fun v h => absurd rfl h, fun v h => ?_⟩
  · cases h
  · obtain ⟨r, hr, -⟩ := h
    cases hr
  · obtain ⟨r, hr, -⟩ := h
    cases hr
theorem bS_old {T : zT} (hw : wfC T.1) (hl : wfL T.1 T.2.1 T.2.2.1 T.2.2.2) {R : zLr} {D : List Int} {F : Int → Int} {s : Int → Int} (hR : ∀ r ∈ R, sFull T.2.2.2.toNat (cMay T.1 T.2.1 T.2.2.1) r) (k : sFull T.2.2.2.toNat (cMay T.1 T.2.1 T.2.2.1) s) (h : bS T R D F) (hF : F (tKy T s) ≠ -1) : bS T (R ++ [s]) D F ∧ ∃ i : Nat, F (tKy T s) = (i : Int) ∧ D[i]? = some (tName T s) := by
  obtain ⟨h1, h2, h3, h4⟩ := h
  obtain ⟨i, i1, r, r1, r2, r3⟩ := h3 _ hF
  have e := orb_same hw hl (hR r r1) k r2
  refine ⟨⟨h1, fun v => ?_, fun v hv => ?_, fun v hv => ?_⟩, i, i1, by rw [r3, e.2]⟩
  · rw [h2]
    constructor
    · rintro ⟨a, a1, a2⟩; exact ⟨a, List.mem_append_left _ a1, a2⟩
    · rintro ⟨a, a1, a2⟩
      rcases List.mem_append.mp a1 with z | z
      · exact ⟨a, z, a2⟩
      · rw [List.mem_singleton] at z
        exact ⟨r, r1, by rw [← e.2, ← z]; exact a2⟩
  · obtain ⟨j, j1, a, a1, a2, a3⟩ := h3 v hv
    exact ⟨j, j1, a, List.mem_append_left _ a1, a2, a3⟩
  · obtain ⟨a, a1, a2⟩ := hv
    rcases List.mem_append.mp a1 with z | z
    · exact h4 v ⟨a, z, a2⟩
    · rw [List.mem_singleton] at z
      rw [z] at a2
      exact h4 v ⟨r, r1, e.1 v a2⟩
theorem bS_new {T : zT} (hw : wfC T.1) (hl : wfL T.1 T.2.1 T.2.2.1 T.2.2.2) {R : zLr} {D : List Int} {F : Int → Int} {s : Int → Int} {vs : List Int} (hR : ∀ r ∈ R, sFull T.2.2.2.toNat (cMay T.1 T.2.1 T.2.2.1) r) (k : sFull T.2.2.2.toNat (cMay T.1 T.2.1 T.2.2.1) s) (h : bS T R D F) (hF : F (tKy T s) = -1) (hv : ∀ v, v ∈ vs ↔ orb T s v) : bS T (R ++ [s]) (D ++ [tName T s]) (pA (D.length : Int) F vs) := by
  obtain ⟨h1, h2, h3, h4⟩ := h
  have hnew : tName T s ∉ D := fun z => by
    obtain ⟨r, r1, r2⟩ := (h2 _).mp z
    exact h4 _ ⟨r, r1, orb_of hw hl (hR r r1) k r2.symm⟩ hF
  have pa := pA_at (sz := (D.length : Int)) (by omega) vs F
  refine ⟨?_, fun v => ?_, fun v hv' => ?_, fun v hv' => ?_⟩
  · rw [List.nodup_append]
    refine ⟨h1, List.nodup_cons.mpr ⟨by simp, List.nodup_nil⟩, fun a ha b hb e => ?_⟩
    rw [List.mem_singleton] at hb
    rw [e, hb] at ha
    exact hnew ha
  · rw [List.mem_append, List.mem_singleton, h2]
    constructor
    · rintro (⟨a, a1, a2⟩ | z)
      · exact ⟨a, List.mem_append_left _ a1, a2⟩
      · exact ⟨s, List.mem_append_right _ (List.mem_singleton.mpr rfl), z.symm⟩
    · rintro ⟨a, a1, a2⟩
      rcases List.mem_append.mp a1 with z | z
      · exact Or.inl ⟨a, z, a2⟩
      · rw [List.mem_singleton] at z
        rw [z] at a2
        exact Or.inr a2.symm
  · rw [pa] at hv' ⊢
    by_cases y : F v ≠ -1
    · rw [if_pos y]
      obtain ⟨j, j1, a, a1, a2, a3⟩ := h3 v y
      have hj : j < D.length := (List.getElem?_eq_some_iff.mp a3).1
      exact ⟨j, j1, a, List.mem_append_left _ a1, a2, by rw [List.getElem?_append_left hj]; exact a3⟩
    · rw [if_neg y] at hv' ⊢
      by_cases x : v ∈ vs
      · rw [if_pos x]
        exact ⟨D.length, rfl, s, List.mem_append_right _ (List.mem_singleton.mpr rfl), (hv v).mp x, by rw [List.getElem?_append_right (Nat.le_refl _), Nat.sub_self]; rfl⟩
      · rw [if_neg x] at hv'
        exact absurd rfl hv'
  · rw [pa]
    by_cases y : F v ≠ -1
    · rw [if_pos y]; exact y
    · rw [if_neg y]
      obtain ⟨a, a1, a2⟩ := hv'
      rcases List.mem_append.mp a1 with z | z
      · exact absurd (h4 v ⟨a, z, a2⟩) y
      · rw [List.mem_singleton] at z
        rw [z] at a2
        rw [if_pos ((hv v).mpr a2)]
        omega
