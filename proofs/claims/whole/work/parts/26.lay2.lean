theorem zfr_cell {F : List (Int × Option Int)} {m m' : zM} (h : zfr F m m') {a : Int} (hF : F.all (fun q => q.1 != a) = true) : m' a = m a := by
  funext j
  have hn : ∀ o, (a, o) ∉ F := fun o ho => by have := List.all_eq_true.mp hF _ ho; simp at this
  exact h a j (hn _) (hn _)
theorem zfr_at {F : List (Int × Option Int)} {m m' : zM} (h : zfr F m m') {a j : Int} (hF : F.all (fun q => q.1 != a || (q.2 != none && q.2 != some j)) = true) : m' a j = m a j := by
  refine h a j (fun ho => ?_) (fun ho => ?_)
  · have := List.all_eq_true.mp hF _ ho; simp at this
  · have := List.all_eq_true.mp hF _ ho; simp at this
/-- rows of pairings lie behind those that were laid -/
def fLaid : List (Int × Option Int) := [(a_mate, none), (a_table, none), (a_sign, none), (a_crossings, none), (a_rounds, none), (aM, some f_laid)]
def mLaid (n : Int) (od br : Int → Bool) (m m' : zM) (rows : List (Int → Int)) : Prop := m' aM f_laid = m aM f_laid + rows.length ∧
  (∀ (t : Nat) (mt : Int → Int), rows[t]? = some mt → (∀ k, 0 ≤ k → k < n → m' a_table (12 * (m aM f_laid + t) + k) = mt k) ∧ m' a_sign (m aM f_laid + t) = sSign n.toNat od br mt ∧ m' a_crossings (m aM f_laid + t) = sCross n.toNat mt ∧ m' a_rounds (m aM f_laid + t) = sRounds n.toNat mt) ∧
  (∀ y, y < 12 * m aM f_laid → m' a_table y = m a_table y) ∧ (∀ y, y < m aM f_laid → m' a_sign y = m a_sign y ∧ m' a_crossings y = m a_crossings y ∧ m' a_rounds y = m a_rounds y) ∧
  m' a_mate = m a_mate ∧ zfr fLaid m m'
theorem mLaid_nil {n : Int} {od br : Int → Bool} {m : zM} : mLaid n od br m m [] :=
  ⟨by simp, fun t mt h => by simp at h, fun _ _ => rfl, fun _ _ => ⟨rfl, rfl, rfl⟩, rfl, zfr_rf⟩
theorem mLaid_app {n : Int} {od br : Int → Bool} {m m1 m2 : zM} {r1 r2 : List (Int → Int)} (hn : n ≤ 12) (h1 : mLaid n od br m m1 r1) (h2 : mLaid n od br m1 m2 r2) : mLaid n od br m m2 (r1 ++ r2) := by
  obtain ⟨a1, a2, a3, a4, a5, a6⟩ := h1
  obtain ⟨b1, b2, b3, b4, b5, b6⟩ := h2
  refine ⟨by rw [b1, a1, List.length_append]; omega, fun t mt ht => ?_, fun y hy => (b3 y (by omega)).trans (a3 y hy), fun y hy => ?_, b5.trans a5, zfr_tr a6 b6⟩
  · by_cases h : t < r1.length
    · rw [List.getElem?_append_left h] at ht
      obtain ⟨c1, c2, c3, c4⟩ := a2 t mt ht
      have hb := b4 (m aM f_laid + t) (by omega)
      exact ⟨fun k k0 kn => (b3 _ (by omega)).trans (c1 k k0 kn), hb.1.trans c2, hb.2.1.trans c3, hb.2.2.trans c4⟩
    · rw [List.getElem?_append_right (by omega)] at ht
      have := b2 _ mt ht
      rw [a1, show m aM f_laid + (r1.length : Int) + ((t - r1.length : Nat) : Int) = m aM f_laid + t by omega] at this
      exact this
  · have h1 := b4 y (by omega)
    have h2 := a4 y hy
    exact ⟨h1.1.trans h2.1, h1.2.1.trans h2.2.1, h1.2.2.trans h2.2.2⟩
/-- two letters were together for a while -/
theorem mLaid_wrap {n : Int} {od br : Int → Bool} {m1 m3 : zM} {rows : List (Int → Int)} {i k : Int} (h : mLaid n od br (zu (zu m1 a_mate i k) a_mate k i) m3 rows) (hi : m1 a_mate i = -1) (hk : m1 a_mate k = -1) (hik : i ≠ k) : mLaid n od br m1 (zu (zu m3 a_mate i (-1)) a_mate k (-1)) rows := by
  obtain ⟨b1, b2, b3, b4, b5, b6⟩ := h
  simp only [zu_fn (show aM ≠ a_mate by decide), zu_fn (show a_table ≠ a_mate by decide), zu_fn (show a_sign ≠ a_mate by decide), zu_fn (show a_crossings ≠ a_mate by decide), zu_fn (show a_rounds ≠ a_mate by decide)] at b1 b2 b3 b4
  refine ⟨?_, ?_, ?_, ?_, ?_, ?_⟩
  · simpa only [zu_fn (show aM ≠ a_mate by decide)] using b1
  · simpa only [zu_fn (show aM ≠ a_mate by decide), zu_fn (show a_table ≠ a_mate by decide), zu_fn (show a_sign ≠ a_mate by decide), zu_fn (show a_crossings ≠ a_mate by decide), zu_fn (show a_rounds ≠ a_mate by decide)] using b2
  · simpa only [zu_fn (show aM ≠ a_mate by decide), zu_fn (show a_table ≠ a_mate by decide)] using b3
  · simpa only [zu_fn (show aM ≠ a_mate by decide), zu_fn (show a_sign ≠ a_mate by decide), zu_fn (show a_crossings ≠ a_mate by decide), zu_fn (show a_rounds ≠ a_mate by decide)] using b4
  · funext x
    have hx := congrFun b5 x
    by_cases e1 : x = k
    · rw [e1, zu_s, hk]
    · rw [zu_j e1]
      by_cases e2 : x = i
      · rw [e2, zu_s, hi]
      · rw [zu_j e2, hx, zu_j e1, zu_j e2]
  · intro a j q1 q2
    have ha : a ≠ a_mate := fun e => q1 (by rw [e]; simp [fLaid])
    rw [zu_a ha, zu_a ha, b6 a j q1 q2, zu_a ha, zu_a ha]
theorem sUp_fn {m1 : zM} {i k : Int} : (zu (zu m1 a_mate i k) a_mate k i) a_mate = sUp (m1 a_mate) i k := by
  funext x
  unfold sUp
  by_cases e1 : x = k
  · rw [e1, zu_s, if_pos rfl]
  · rw [zu_j e1, if_neg e1]
    by_cases e2 : x = i
    · rw [e2, zu_s, if_pos rfl]
    · rw [zu_j e2, if_neg e2]
/-- what is kept while pairings are laid -/
theorem fLaid_k {m m' : zM} (h : zfr fLaid m m') : m' a_c = m a_c ∧ m' a_what = m a_what ∧ m' a_pointOf = m a_pointOf ∧ m' aM f_letters = m aM f_letters ∧ m' aM f_among = m aM f_among ∧ (ptM m → ptM m') := by
  refine ⟨zfr_cell h (by decide), zfr_cell h (by decide), zfr_cell h (by decide), zfr_at h (by decide), zfr_at h (by decide), fun hp q hq => ?_⟩
  have hq2 : ∀ q ∈ mPt, fLaid.all (fun r => r.1 != aM || (r.2 != none && r.2 != some q.1)) = true := by decide
  rw [zfr_at h (hq2 q hq)]
  exact hp q hq
