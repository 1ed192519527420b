/-! the diagrams' rows, as they are filled -/
noncomputable def imgs (T : zT) (g : Int → Int) : List Int := (allCh T.1).map (fun ch => sV T.1 g (tH T) (chP ch))
/-- a place i that holds the name v, after the rows R of L -/
def dP (m : zM) (b : Int) (T : zT) (L R : zLr) (i v : Int) : Prop := m b i = v ∧ m (b + 1) i = lS (fun r => zb (tName T r = v)) R ∧ m (b + 2) i = lS (fun r => if tName T r = v then tSign T r else 0) R ∧ ∃ (k : Nat) (r : Int → Int), m (b + 3) i = (k : Int) ∧ L[k]? = some r ∧ tName T r = v ∧ (∀ (k' : Nat) (r' : Int → Int), k' < k → L[k']? = some r' → tName T r' ≠ v) ∧ m (b + 4) i = sSame (tKy T r) (imgs T (rowF T r))
def dS (m : zM) (b : Int) (T : zT) (L R : zLr) (D : List Int) : Prop := (∀ (i : Nat) (v : Int), D[i]? = some v → dP m b T L R (i : Int) v) ∧ ∀ (k : Nat) (r : Int → Int), R[k]? = some r → ∃ i : Nat, m (b + 7) (k : Int) = (i : Int) ∧ D[i]? = some (tName T r)
theorem dP_eq {m m' : zM} {b : Int} {T : zT} {L R : zLr} {i v : Int} (h : dP m b T L R i v) (e : ∀ x : Int, 0 ≤ x → x < 5 → m' (b + x) i = m (b + x) i) : dP m' b T L R i v := by
  have e0 := e 0 (by decide) (by decide)
  rw [Int.add_zero] at e0
  obtain ⟨h1, h2, h3, k, r, h4, h5, h6, h7, h8⟩ := h
  exact ⟨by rw [e0]; exact h1, by rw [e 1 (by decide) (by decide)]; exact h2, by rw [e 2 (by decide) (by decide)]; exact h3, k, r, by rw [e 3 (by decide) (by decide)]; exact h4, h5, h6, h7, by rw [e 4 (by decide) (by decide)]; exact h8⟩
theorem dS_eq {m m' : zM} {b : Int} {T : zT} {L R : zLr} {D : List Int} (h : dS m b T L R D) (e : ∀ x i : Int, 0 ≤ x → x < 8 → m' (b + x) i = m (b + x) i) : dS m' b T L R D := by
  refine ⟨fun i v hv => dP_eq (h.1 i v hv) (fun x x0 x1 => e x _ x0 (by omega)), fun k r hr => ?_⟩
  obtain ⟨i, h1, h2⟩ := h.2 k r hr
  exact ⟨i, by rw [e 7 _ (by decide) (by decide)]; exact h1, h2⟩
theorem lS_0 {f : (Int → Int) → Int} : ∀ {R : zLr}, (∀ r ∈ R, f r = 0) → lS f R = 0
  | [], _ => rfl
  | x :: l, h => by
    show f x + lS f l = 0
    rw [h x List.mem_cons_self, lS_0 (fun r hr => h r (List.mem_cons_of_mem _ hr))]
    rfl
theorem nodup_at {D : List Int} (h : D.Nodup) {i j : Nat} {v : Int} (h1 : D[i]? = some v) (h2 : D[j]? = some v) : i = j := by
  obtain ⟨a1, a2⟩ := List.getElem?_eq_some_iff.mp h1
  obtain ⟨b1, b2⟩ := List.getElem?_eq_some_iff.mp h2
  rcases Nat.lt_trichotomy i j with z | z | z
  · exact absurd (a2.trans b2.symm) (List.pairwise_iff_getElem.mp h i j a1 b1 z)
  · exact z
  · exact absurd (b2.trans a2.symm) (List.pairwise_iff_getElem.mp h j i b1 a1 z)
/-- a new place -/
theorem dS_new {m m' : zM} {b : Int} {T : zT} {L : zLr} {n : Nat} {D : List Int} {F : Int → Int} {s : Int → Int} (hB : bS T (L.take n) D F) (h : dS m b T L (L.take n) D) (hs : L[n]? = some s) (hnew : ∀ r ∈ L.take n, tName T r ≠ tName T s) (e : ∀ x i : Int, 0 ≤ x → x < 8 → i ≠ (D.length : Int) ∨ 4 < x → m' (b + x) i = m (b + x) i) (e0 : m' b (D.length : Int) = tName T s) (e1 : m' (b + 1) (D.length : Int) = 0) (e2 : m' (b + 2) (D.length : Int) = 0) (e3 : m' (b + 3) (D.length : Int) = (n : Int)) (e4 : m' (b + 4) (D.length : Int) = sSame (tKy T s) (imgs T (rowF T s))) : dS m' b T L (L.take n) (D ++ [tName T s]) := by
  refine ⟨fun i v hv => ?_, fun k r hr => ?_⟩
  · by_cases hi : i < D.length
    · rw [List.getElem?_append_left hi] at hv
      exact dP_eq (h.1 i v hv) (fun x x0 x1 => e x _ x0 (by omega) (Or.inl (by omega)))
    · have hi2 : i = D.length := by
        have := (List.getElem?_eq_some_iff.mp hv).1
        rw [List.length_append] at this
        simp only [List.length_cons, List.length_nil] at this
        omega
      rw [hi2, List.getElem?_append_right (Nat.le_refl _), Nat.sub_self] at hv
      have hv2 : tName T s = v := by injection hv
      rw [hi2, ← hv2]
      refine ⟨e0, ?_, ?_, n, s, e3, hs, rfl, fun k' r' hk hr' he => ?_, e4⟩
      · rw [e1, lS_0 (fun r hr => zb_f (hnew r hr))]
      · rw [e2, lS_0 (fun r hr => if_neg (hnew r hr))]
      · exact hnew r' (List.mem_of_getElem? (by rw [List.getElem?_take_of_lt hk]; exact hr')) he
  · obtain ⟨i, h1, h2⟩ := h.2 k r hr
    have hi : i < D.length := (List.getElem?_eq_some_iff.mp h2).1
    exact ⟨i, by rw [e 7 _ (by decide) (by decide) (Or.inr (by decide))]; exact h1, by rw [List.getElem?_append_left hi]; exact h2⟩
/-- one more is counted -/
theorem dS_cnt {m : zM} {b : Int} {T : zT} {L : zLr} {n i0 : Nat} {D : List Int} {s : Int → Int} (hnd : D.Nodup) (hs : L[n]? = some s) (h : dS m b T L (L.take n) D) (hi : D[i0]? = some (tName T s)) : dS (zu (zu (zu m (b + 7) (n : Int) (i0 : Int)) (b + 1) (i0 : Int) (m (b + 1) (i0 : Int) + 1)) (b + 2) (i0 : Int) (m (b + 2) (i0 : Int) + tSign T s)) b T L (L.take (n + 1)) D := by
  have hn : n < L.length := (List.getElem?_eq_some_iff.mp hs).1
  have ht : L.take (n + 1) = L.take n ++ [s] := by
    rw [List.take_add_one, hs]
    rfl
  have ls : ∀ f : (Int → Int) → Int, lS f (L.take (n + 1)) = lS f (L.take n) + f s := fun f => by
    rw [ht, lS_app]
    show _ + (f s + 0) = _
    omega
  have o : ∀ x i : Int, x ≠ b + 1 → x ≠ b + 2 → x ≠ b + 7 → (zu (zu (zu m (b + 7) (n : Int) (i0 : Int)) (b + 1) (i0 : Int) (m (b + 1) (i0 : Int) + 1)) (b + 2) (i0 : Int) (m (b + 2) (i0 : Int) + tSign T s)) x i = m x i := fun x i h1 h2 h7 => by
    rw [zu_a h2, zu_a h1, zu_a h7]
  refine ⟨fun i v hv => ?_, fun k r hr => ?_⟩
  · obtain ⟨h1, h2, h3, k, r, h4, h5, h6, h7, h8⟩ := h.1 i v hv
    refine ⟨by rw [o _ _ (by omega) (by omega) (by omega)]; exact h1, ?_, ?_, k, r, by rw [o _ _ (by omega) (by omega) (by omega)]; exact h4, h5, h6, h7, by rw [o _ _ (by omega) (by omega) (by omega)]; exact h8⟩
    · rw [zu_a (by omega), ls]
      by_cases e : i = i0
      · have ev : tName T s = v := by rw [e, hi] at hv; injection hv
        rw [e, zu_s, ← e, h2, zb_t ev]
      · rw [zu_j (by omega), zu_a (by omega), h2, zb_f (fun z => e (nodup_at hnd hv (by rw [hi, z]))), Int.add_zero]
    · rw [ls]
      by_cases e : i = i0
      · have ev : tName T s = v := by rw [e, hi] at hv; injection hv
        rw [e, zu_s, ← e, h3, if_pos ev]
      · rw [zu_j (by omega), zu_a (by omega), zu_a (by omega), h3, if_neg (fun z => e (nodup_at hnd hv (by rw [hi, z]))), Int.add_zero]
  · by_cases hk : k < n
    · rw [ht, List.getElem?_append_left (by rw [List.length_take]; omega)] at hr
      obtain ⟨i, h1, h2⟩ := h.2 k r hr
      exact ⟨i, by rw [zu_a (by omega), zu_a (by omega), zu_j (by omega)]; exact h1, h2⟩
    · have hk2 : k = n := by
        have := (List.getElem?_eq_some_iff.mp hr).1
        rw [List.length_take] at this
        omega
      rw [hk2, List.getElem?_take_of_lt (by omega), hs] at hr
      have er : s = r := by injection hr
      exact ⟨i0, by rw [hk2, zu_a (by omega), zu_a (by omega), zu_s], by rw [← er]; exact hi⟩
theorem dS_bd {m : zM} {b : Int} {T : zT} {L R : zLr} {D : List Int} (h : dS m b T L R D) {i : Nat} {v : Int} (hv : D[i]? = some v) : (0 ≤ m (b + 1) (i : Int) ∧ m (b + 1) (i : Int) ≤ R.length) ∧ -(R.length : Int) ≤ m (b + 2) (i : Int) ∧ m (b + 2) (i : Int) ≤ R.length := by
  obtain ⟨h1, h2, h3, -⟩ := h.1 i v hv
  rw [h2, h3]
  refine ⟨lS_bd (fun r => by have := zb01 (tName T r = v); omega), lS_bd1 (fun r => ?_)⟩
  split
  · unfold tSign sSign zpar
    split <;> omega
  · omega
theorem kEx_5 (x : Int) : ∀ j st : Nat, 5 ≤ kEx x j st
  | 0, st => by show 5 ≤ 5 + st; omega
  | j + 1, st => by
    show 5 ≤ if _ then _ else _
    split
    · exact kEx_5 x j (st + 1)
    · exact Nat.le_add_right 5 st
theorem kEx_lt {x : Int} (hx : 0 ≤ x ∧ x ≤ 10395) : x < ((2 ^ kEx x 10 0 : Nat) : Int) := by
  have h1 := (kEx_ok hx).2
  have h2 := Nat.pow_le_pow_right (n := 2) (by decide) (kEx_5 x 10 0)
  rcases Int.lt_or_le x 2 with z | z
  · omega
  · omega
/-- all marks lie among the keys -/
theorem keys_in {T : zT} (hw : wfC T.1) (hf : isFlat T.1 T.2.1 T.2.2.1 T.2.2.2) (hn : T.2.2.2 ≤ 12) {r : Int → Int} (h : r ∈ tPairs T) {v : Int} (ho : orb T r v) : v ∈ (tPairs T).map (tKy T) := by
  obtain ⟨π, p1, p2⟩ := ho
  obtain ⟨s, s1, s2⟩ := img_key hw hf hn p1 h
  exact List.mem_map.mpr ⟨s, s1, by rw [p2]; exact s2⟩
theorem imgs_orb {T : zT} (hw : wfC T.1) (hl : wfL T.1 T.2.1 T.2.2.1 T.2.2.2) {r g : Int → Int} (h : sFull T.2.2.2.toNat (cMay T.1 T.2.1 T.2.2.1) r) (hg : pm g (rowF T r) (tH T)) (v : Int) : v ∈ imgs T g ↔ orb T r v := by
  have ha : ∀ i : Int, 0 ≤ i → i < tH T → cCodeOk T.1 (g i) = true := pm_all (P := fun v => cCodeOk T.1 v = true) (pm_sy hg) (fun i i0 i1 => lf_ok hw hl h i0 i1)
  unfold imgs orb
  rw [vs_mem hw ha]
  constructor
  · rintro ⟨π, a, e⟩; exact ⟨π, a, by rw [e, sV_pm hg]⟩
  · rintro ⟨π, a, e⟩; exact ⟨π, a, by rw [e, sV_pm hg]⟩
theorem imgs_pm {T : zT} {f g : Int → Int} (hg : pm g f (tH T)) : imgs T g = imgs T f := by
  unfold imgs
  exact List.map_congr_left (fun ch _ => sV_pm hg)
