/-! all changes of places; names as rows of lawful codes; sums over lists; rising lists -/
theorem sCat_mem' {α : Type} {g : Int → List α} : ∀ {s : Nat} {k j : Int} {x : α}, k ≤ j → j < k + s → x ∈ g j → x ∈ sCat g s k
  | 0, k, j, x, h1, h2, _ => by omega
  | s + 1, k, j, x, h1, h2, h3 => by
    rw [sCat_s]
    by_cases e : j = k
    · subst e; exact List.mem_append_left _ h3
    · exact List.mem_append_right _ (sCat_mem' (by omega) (by omega) h3)
/-- a lawful change of places, from point p on, s of them -/
def gPl (nP : Nat) (al : Int → Int → Bool) (s p used : Nat) (pl : Int → Int) : Prop := ∀ x : Int, (p : Int) ≤ x → x < p + s → (0 ≤ pl x ∧ pl x < nP ∧ (pl x = x ∨ al x (pl x) = true) ∧ used.testBit (pl x).toNat = false) ∧ ∀ y : Int, (p : Int) ≤ y → y < p + s → pl x = pl y → x = y
theorem or_bit {a k i : Nat} : (a ||| 2 ^ k).testBit i = (a.testBit i || decide (k = i)) := by rw [Nat.testBit_or, Nat.testBit_two_pow]
theorem sPlc_mem {nP : Nat} {al : Int → Int → Bool} {V : (Int → Int) → Int} : ∀ {s p used : Nat} {pl : Int → Int} {v : Int}, v ∈ sPlc nP al V s p used pl ↔ ∃ pl' : Int → Int, (∀ x : Int, (x < p ∨ (p : Int) + s ≤ x) → pl' x = pl x) ∧ gPl nP al s p used pl' ∧ v = V pl'
  | 0, p, used, pl, v => by
    simp only [sPlc, List.mem_singleton]
    constructor
    · rintro rfl
      exact ⟨pl, fun _ _ => rfl, fun x h1 h2 => by omega, rfl⟩
    · rintro ⟨pl', h1, _, rfl⟩
      congr 1
      funext x
      exact h1 x (by omega)
  | s + 1, p, used, pl, v => by
    rw [sPlc_eq (by omega)]
    constructor
    · intro h
      obtain ⟨q, h1, h2, h3⟩ := sCat_mem h
      split at h3
      · rename_i hq
        rw [show s + 1 - 1 = s by omega] at h3
        obtain ⟨pl', g1, g2, rfl⟩ := sPlc_mem.mp h3
        have gp : pl' p = q := by rw [g1 p (by omega), if_pos rfl]
        refine ⟨pl', fun x hx => ?_, fun x hx1 hx2 => ?_, rfl⟩
        · rw [g1 x (by omega), if_neg (by omega)]
        · by_cases e : x = p
          · subst e
            rw [gp]
            refine ⟨⟨h1, by omega, hq.2, hq.1⟩, fun y hy1 hy2 hy => ?_⟩
            by_cases e2 : y = p
            · exact e2.symm
            · have g := (g2 y (by omega) (by omega)).1.2.2.2
              rw [or_bit, ← hy] at g
              simp at g
          · have g := g2 x (by omega) (by omega)
            have gb := g.1.2.2.2
            rw [or_bit, Bool.or_eq_false_iff] at gb
            refine ⟨⟨g.1.1, g.1.2.1, g.1.2.2.1, gb.1⟩, fun y hy1 hy2 hy => ?_⟩
            by_cases e2 : y = p
            · exfalso
              have hx := gb.2
              rw [hy, e2, gp] at hx
              simp at hx
            · exact g.2 y (by omega) (by omega) hy
      · simp at h3
    · rintro ⟨pl', h1, h2, rfl⟩
      have hp := h2 p (by omega) (by omega)
      refine sCat_mem' (j := pl' p) hp.1.1 (by omega) ?_
      rw [if_pos ⟨hp.1.2.2.2, hp.1.2.2.1⟩, show s + 1 - 1 = s by omega]
      refine sPlc_mem.mpr ⟨pl', fun x hx => ?_, fun x hx1 hx2 => ?_, rfl⟩
      · by_cases e : x = p
        · rw [if_pos e, e]
        · rw [if_neg e]; exact h1 x (by omega)
      · have g := h2 x (by omega) (by omega)
        refine ⟨⟨g.1.1, g.1.2.1, g.1.2.2.1, ?_⟩, fun y hy1 hy2 hy => g.2 y (by omega) (by omega) hy⟩
        rw [or_bit, g.1.2.2.2, Bool.false_or, decide_eq_false_iff_not]
        intro e
        have := g.2 p (by omega) (by omega) (by omega)
        omega
theorem sLeast_in : ∀ (l : List Int) (b : Int), 0 ≤ b → (∀ v ∈ l, 0 ≤ v) → (sLeast b l = b ∨ sLeast b l ∈ l) ∧ sLeast b l ≤ b ∧ ∀ v ∈ l, sLeast b l ≤ v
  | [], b, hb, _ => ⟨Or.inl rfl, Int.le_refl _, by simp⟩
  | v :: l, b, hb, h => by
    have hv := h v (by simp)
    have e : sLeast b (v :: l) = sLeast (if v < b then v else b) l := by
      unfold sLeast
      rw [List.foldl_cons]
      congr 1
      by_cases h1 : v < b
      · rw [if_pos (Or.inr h1), if_pos h1]
      · rw [if_neg (by omega), if_neg h1]
    rw [e]
    by_cases h1 : v < b
    · rw [if_pos h1]
      obtain ⟨i1, i2, i3⟩ := sLeast_in l v hv (fun u hu => h u (List.mem_cons_of_mem _ hu))
      refine ⟨Or.inr ?_, by omega, fun u hu => ?_⟩
      · rcases i1 with i1 | i1
        · rw [i1]; simp
        · exact List.mem_cons_of_mem _ i1
      · rcases List.mem_cons.mp hu with rfl | hu
        · exact i2
        · exact i3 u hu
    · rw [if_neg h1]
      obtain ⟨i1, i2, i3⟩ := sLeast_in l b hb (fun u hu => h u (List.mem_cons_of_mem _ hu))
      refine ⟨?_, i2, fun u hu => ?_⟩
      · rcases i1 with i1 | i1
        · exact Or.inl i1
        · exact Or.inr (List.mem_cons_of_mem _ i1)
      · rcases List.mem_cons.mp hu with rfl | hu
        · omega
        · exact i3 u hu
/-- the least of a row that isn't empty -/
theorem sLeast_m1 {l : List Int} (h : ∀ v ∈ l, 0 ≤ v) (hne : l ≠ []) : sLeast (-1) l ∈ l ∧ ∀ v ∈ l, sLeast (-1) l ≤ v := by
  cases l with
  | nil => exact absurd rfl hne
  | cons v l =>
    have e : sLeast (-1) (v :: l) = sLeast v l := by
      unfold sLeast
      rw [List.foldl_cons, if_pos (Or.inl (by decide))]
    rw [e]
    obtain ⟨i1, i2, i3⟩ := sLeast_in l v (h v (by simp)) (fun u hu => h u (List.mem_cons_of_mem _ hu))
    refine ⟨?_, fun u hu => ?_⟩
    · rcases i1 with i1 | i1
      · rw [i1]; simp
      · exact List.mem_cons_of_mem _ i1
    · rcases List.mem_cons.mp hu with rfl | hu
      · exact i2
      · exact i3 u hu
theorem cCodeOk_iff {c : Int → Int} {co : Int} : cCodeOk c co = true ↔ (0 ≤ co ∧ co / 100 ≤ c 2 - 1 ∧ co / 10 % 10 ≤ c 2 - 1 ∧ (if 6 ≤ co % 10 then co % 10 - 6 < c 1 else co % 10 < c 0 ∧ (c (4 + 3 * (co % 10) + 1) = 1 ∨ co / 100 ≤ co / 10 % 10))) := by
  unfold cCodeOk
  exact decide_eq_true_iff
theorem cCodeOk_rg {c : Int → Int} {co : Int} (hw : wfC c) (h : cCodeOk c co = true) : 0 ≤ co ∧ co / 100 < c 2 ∧ co / 10 % 10 < c 2 ∧ co < 800 := by
  have h := cCodeOk_iff.mp h
  have := hw.2.2.1
  omega
/-- the code of two letters that may be paired is lawful -/
theorem cCode_ok {c w q : Int → Int} {n i j : Int} (hw : wfC c) (hl : wfL c w q n) (hi0 : 0 ≤ i) (hi : i < n) (hj0 : 0 ≤ j) (hj : j < n) (hm : cMay c w q i j = true) : cCodeOk c (cCode c w q i j) = true := by
  have hi' := hl.2 i hi0 hi
  have hj' := hl.2 j hj0 hj
  have b1 := hw.1
  have b3 := hw.2.2.1
  have b2 := hw.2.1
  rw [cMay, decide_eq_true_eq] at hm
  rw [cCodeOk_iff]
  unfold cCode
  by_cases e : w i / 2 = w j / 2
  · rw [if_pos e]
    by_cases e2 : c (4 + 3 * (w i / 2) + 1) = 1
    · rw [if_pos e2]
      by_cases e3 : w i % 2 = 0
      · rw [if_pos e3]
        have g : (100 * q i + 10 * q j + w i / 2) % 10 = w i / 2 := by omega
        rw [g, if_neg (by omega)]
        exact ⟨by omega, by omega, by omega, by omega, Or.inl e2⟩
      · rw [if_neg e3]
        have g : (100 * q j + 10 * q i + w i / 2) % 10 = w i / 2 := by omega
        rw [g, if_neg (by omega)]
        exact ⟨by omega, by omega, by omega, by omega, Or.inl e2⟩
    · rw [if_neg e2]
      by_cases e3 : q i < q j
      · rw [if_pos e3]
        have g : (100 * q i + 10 * q j + w i / 2) % 10 = w i / 2 := by omega
        rw [g, if_neg (by omega)]
        exact ⟨by omega, by omega, by omega, by omega, Or.inr (by omega)⟩
      · rw [if_neg e3]
        have g : (100 * q j + 10 * q i + w i / 2) % 10 = w i / 2 := by omega
        rw [g, if_neg (by omega)]
        exact ⟨by omega, by omega, by omega, by omega, Or.inr (by omega)⟩
  · rw [if_neg e] at hm ⊢
    have h0 := hm.2.2.2
    have h1 := cMix_lt (f := w i / 2) (g := w j / 2) hw
    generalize cMix c (w i / 2) (w j / 2) = k at h0 h1 ⊢
    by_cases e2 : c (24 + 2 * k) = w i / 2
    · rw [if_pos e2, if_pos (by omega)]
      exact ⟨by omega, by omega, by omega, by omega⟩
    · rw [if_neg e2, if_pos (by omega)]
      exact ⟨by omega, by omega, by omega, by omega⟩
theorem cImg_ok {c pl : Int → Int} {co : Int} (hw : wfC c) (h : cCodeOk c co = true) (hpl : ∀ x : Int, 0 ≤ x → x < c 2 → 0 ≤ pl x ∧ pl x < c 2) : cCodeOk c (cImg c pl co) = true := by
  have h := cCodeOk_iff.mp h
  have b3 := hw.2.2.1
  have b1 := hw.1
  have b2 := hw.2.1
  have p1 := hpl (co / 100) (by omega) (by omega)
  have p2 := hpl (co / 10 % 10) (by omega) (by omega)
  rw [cCodeOk_iff]
  unfold cImg
  generalize pl (co / 100) = A at p1 ⊢
  generalize pl (co / 10 % 10) = B at p2 ⊢
  have hs : 0 ≤ co % 10 ∧ co % 10 < 10 := by omega
  generalize co % 10 = S at hs h ⊢
  by_cases e : B < A ∧ S < 6 ∧ c (4 + 3 * S + 1) ≠ 1
  · rw [if_pos e]
    have g : (100 * B + 10 * A + S) % 10 = S := by omega
    rw [g, if_neg (by omega)]
    have h4 := h.2.2.2
    rw [if_neg (by omega)] at h4
    exact ⟨by omega, by omega, by omega, h4.1, Or.inr (by omega)⟩
  · rw [if_neg e]
    have g : (100 * A + 10 * B + S) % 10 = S := by omega
    rw [g]
    refine ⟨by omega, by omega, by omega, ?_⟩
    by_cases e6 : 6 ≤ S
    · rw [if_pos e6]
      have h4 := h.2.2.2
      rw [if_pos e6] at h4
      exact h4
    · rw [if_neg e6]
      have h4 := h.2.2.2
      rw [if_neg e6] at h4
      refine ⟨h4.1, ?_⟩
      by_cases e7 : c (4 + 3 * S + 1) = 1
      · exact Or.inl e7
      · exact Or.inr (by omega)
theorem cImg_congr {c pl pl' : Int → Int} {co : Int} (h1 : pl (co / 100) = pl' (co / 100)) (h2 : pl (co / 10 % 10) = pl' (co / 10 % 10)) : cImg c pl co = cImg c pl' co := by
  unfold cImg
  rw [h1, h2]
/-- a row of lawful codes, rising -/
def cRow (c g : Int → Int) (h : Nat) : Prop := (∀ i : Int, 0 ≤ i → i < h → cCodeOk c (g i) = true) ∧ srt g h
theorem cRow_rg {c g : Int → Int} {h : Nat} (hw : wfC c) (hr : cRow c g h) : ∀ i : Int, 0 ≤ i → i < h → 0 ≤ g i ∧ g i < 1024 := fun i q1 q2 => by
  have := cCodeOk_rg hw (hr.1 i q1 q2)
  omega
theorem cRow_nn {c g : Int → Int} {h : Nat} (hw : wfC c) (hr : cRow c g h) : 0 ≤ sPk g h := (sPk_bd (cRow_rg hw hr)).1
theorem sKey_row {c f : Int → Int} {h : Nat} (hf : ∀ i : Int, 0 ≤ i → i < h → cCodeOk c (f i) = true) : ∃ g, sKey f h = sPk g h ∧ cRow c g h ∧ pm g f h := by
  obtain ⟨g, h1, h2⟩ := srt_exists f h
  exact ⟨g, sKey_eq h1 h2, ⟨pm_all (P := fun v => cCodeOk c v = true) (pm_sy h2) hf, h1⟩, h2⟩
theorem lf_ok {c w q : Int → Int} {n : Int} {mt : Int → Int} (hw : wfC c) (hl : wfL c w q n) (hf : sFull n.toNat (cMay c w q) mt) {x : Int} (h0 : 0 ≤ x) (hx : x < (n / 2).toNat) : cCodeOk c (lf (sCL n.toNat (cCode c w q) mt n.toNat 0) x) = true := by
  have hlen := sCL_len (code := cCode c w q) hf (k := n.toNat) (Nat.le_refl _)
  have hop := hf.2
  unfold sOp at hop
  have hb := hl.1
  obtain ⟨i, h1, h2, h3, h4⟩ := sCL_mem (lf_mem (l := sCL n.toNat (cCode c w q) mt n.toNat 0) h0 (by omega))
  rw [h4]
  have g := hf.1 i h1 h2
  exact cCode_ok hw hl h1 (by omega) g.1 (by omega) (g.2.2.2.2 (by omega))
theorem sKeyOf_ok {c w q : Int → Int} {n : Int} {mt : Int → Int} (hw : wfC c) (hl : wfL c w q n) (hf : sFull n.toNat (cMay c w q) mt) : ∃ g, sKeyOf c w q n mt = sPk g (n / 2).toNat ∧ cRow c g (n / 2).toNat := by
  obtain ⟨g, h1, h2, _⟩ := sKey_row (fun i q1 q2 => lf_ok hw hl hf q1 q2)
  exact ⟨g, h1, h2⟩
/-- a lawful change of all places -/
def gPA (c pl : Int → Int) : Prop := gPl (c 2).toNat (cAlike c) (c 2).toNat 0 0 pl
theorem gPA_rg {c pl : Int → Int} (hw : wfC c) (h : gPA c pl) : ∀ x : Int, 0 ≤ x → x < c 2 → 0 ≤ pl x ∧ pl x < c 2 := fun x q1 q2 => by
  have := h x (by omega) (by omega)
  have := hw.2.2.1
  omega
theorem gPA_id {c : Int → Int} : gPA c (fun x => x) := fun x q1 q2 => ⟨⟨by show 0 ≤ x; omega, by show x < ((c 2).toNat : Int); omega, Or.inl rfl, Nat.zero_testBit _⟩, fun y _ _ e => e⟩
/-- the name: one of the keys by all changes of places, and the least -/
theorem sNM_is {c g : Int → Int} {h : Nat} (hw : wfC c) (hr : cRow c g h) : (∃ pl, gPA c pl ∧ sNM c h (sPk g h) = sV c g h pl) ∧ ∀ pl, gPA c pl → sNM c h (sPk g h) ≤ sV c g h pl := by
  have e : sV c (uF (sPk g h) h) h = sV c g h := sV_co (fun i q1 q2 => uF_eq (cRow_rg hw hr) q1 q2)
  have ok : ∀ pl, gPA c pl → ∃ g', sV c g h pl = sPk g' h ∧ cRow c g' h := fun pl hpl => by
    obtain ⟨g', h1, h2, _⟩ := sKey_row (c := c) (f := fun k => cImg c pl (g k)) (h := h) (fun i q1 q2 => cImg_ok hw (hr.1 i q1 q2) (gPA_rg hw hpl))
    exact ⟨g', h1, h2⟩
  have key : ∀ v, v ∈ sPlc (c 2).toNat (cAlike c) (sV c g h) (c 2).toNat 0 0 (fun _ => 0) → ∃ pl, gPA c pl ∧ v = sV c g h pl := fun v hv => by
    obtain ⟨pl, _, h2, h3⟩ := sPlc_mem.mp hv
    exact ⟨pl, h2, h3⟩
  have nn : ∀ v ∈ sPlc (c 2).toNat (cAlike c) (sV c g h) (c 2).toNat 0 0 (fun _ => 0), 0 ≤ v := fun v hv => by
    obtain ⟨pl, h1, rfl⟩ := key v hv
    obtain ⟨g', h2, h3⟩ := ok pl h1
    rw [h2]
    exact cRow_nn hw h3
  have cong : ∀ pl, gPA c pl → sV c g h pl ∈ sPlc (c 2).toNat (cAlike c) (sV c g h) (c 2).toNat 0 0 (fun _ => 0) := fun pl hpl => by
    refine sPlc_mem.mpr ⟨fun x => if 0 ≤ x ∧ x < c 2 then pl x else 0, fun x hx => ?_, fun x q1 q2 => ?_, ?_⟩
    · exact if_neg (by have := hw.2.2.1; omega)
    · have hx : 0 ≤ x ∧ x < c 2 := by have := hw.2.2.1; omega
      have g := hpl x q1 q2
      refine ⟨by dsimp only; rw [if_pos hx]; exact g.1, fun y r1 r2 r3 => ?_⟩
      have hy : 0 ≤ y ∧ y < c 2 := by have := hw.2.2.1; omega
      dsimp only at r3
      rw [if_pos hx, if_pos hy] at r3
      exact g.2 y r1 r2 r3
    · refine sKey_congr (fun i q1 q2 => ?_)
      have hc := cCodeOk_rg hw (hr.1 i q1 q2)
      exact cImg_congr (if_pos (by omega)).symm (if_pos (by omega)).symm
  have ne : sPlc (c 2).toNat (cAlike c) (sV c g h) (c 2).toNat 0 0 (fun _ => 0) ≠ [] := fun h0 => by
    have := cong _ gPA_id
    rw [h0] at this
    simp at this
  have fin := sLeast_m1 nn ne
  unfold sNM
  rw [e]
  refine ⟨key _ fin.1, fun pl hpl => fin.2 _ (cong pl hpl)⟩
theorem sV_row {c g pl : Int → Int} {h : Nat} (hw : wfC c) (hr : cRow c g h) (hpl : gPA c pl) : ∃ g', sV c g h pl = sPk g' h ∧ cRow c g' h := by
  obtain ⟨g', h1, h2, _⟩ := sKey_row (c := c) (f := fun k => cImg c pl (g k)) (h := h) (fun i q1 q2 => cImg_ok hw (hr.1 i q1 q2) (gPA_rg hw hpl))
  exact ⟨g', h1, h2⟩
theorem sNM_row {c g : Int → Int} {h : Nat} (hw : wfC c) (hr : cRow c g h) : ∃ g', sNM c h (sPk g h) = sPk g' h ∧ cRow c g' h := by
  obtain ⟨⟨pl, h1, h2⟩, _⟩ := sNM_is hw hr
  rw [h2]
  exact sV_row hw hr h1
/-! sums over lists -/
def lS {α : Type} (f : α → Int) : List α → Int
  | [] => 0
  | x :: l => f x + lS f l
theorem zsum_lS {α : Type} {f : Int → Int} {g : α → Int} : ∀ {l : List α} {k : Int}, (∀ (t : Nat) (x : α), l[t]? = some x → f (k + t) = g x) → zsum f l.length k = lS g l
  | [], k, _ => rfl
  | x :: l, k, h => by
    have h0 := h 0 x rfl
    rw [show k + ((0 : Nat) : Int) = k by omega] at h0
    rw [List.length_cons, zsum_s, lS, h0, zsum_lS (g := g) (l := l) (k := k + 1) (fun t y ht => by
      have := h (t + 1) y (by simpa using ht)
      rw [← this, show k + 1 + (t : Int) = k + ((t + 1 : Nat) : Int) by omega])]
theorem zsum_lS0 {α : Type} {f : Int → Int} {g : α → Int} {l : List α} {n : Nat} (hn : n = l.length) (h : ∀ (t : Nat) (x : α), l[t]? = some x → f t = g x) : zsum f n 0 = lS g l := by
  rw [hn]
  exact zsum_lS (fun t x ht => by rw [Int.zero_add]; exact h t x ht)
/-! rising lists -/
def sIns (v : Int) : List Int → List Int
  | [] => [v]
  | x :: l => if v < x then v :: x :: l else if v = x then x :: l else x :: sIns v l
def sSet : List Int → List Int
  | [] => []
  | v :: l => sIns v (sSet l)
theorem sIns_mem {v u : Int} : ∀ {l : List Int}, u ∈ sIns v l ↔ u = v ∨ u ∈ l
  | [] => by simp [sIns]
  | x :: l => by
    unfold sIns
    split
    · simp
    · split
      · rename_i h; subst h; simp
      · rw [List.mem_cons, sIns_mem (l := l), List.mem_cons]; constructor <;> (intro h; rcases h with h | h | h <;> simp [h])
theorem sIns_rise {v : Int} : ∀ {l : List Int}, l.Pairwise (· < ·) → (sIns v l).Pairwise (· < ·)
  | [], _ => by simp [sIns]
  | x :: l, h => by
    unfold sIns
    have h2 := List.pairwise_cons.mp h
    split
    · rename_i h1
      refine List.pairwise_cons.mpr ⟨fun u hu => ?_, h⟩
      rcases List.mem_cons.mp hu with rfl | hu
      · exact h1
      · exact Int.lt_trans h1 (h2.1 u hu)
    · split
      · exact h
      · refine List.pairwise_cons.mpr ⟨fun u hu => ?_, sIns_rise h2.2⟩
        rcases sIns_mem.mp hu with rfl | hu
        · omega
        · exact h2.1 u hu
theorem sSet_mem {u : Int} : ∀ {l : List Int}, u ∈ sSet l ↔ u ∈ l
  | [] => by simp [sSet]
  | v :: l => by rw [sSet, sIns_mem, sSet_mem, List.mem_cons]
theorem sSet_rise : ∀ l : List Int, (sSet l).Pairwise (· < ·)
  | [] => List.Pairwise.nil
  | v :: l => sIns_rise (sSet_rise l)
theorem rise_uniq : ∀ {l r : List Int}, l.Pairwise (· < ·) → r.Pairwise (· < ·) → (∀ v, v ∈ l ↔ v ∈ r) → l = r
  | [], [], _, _, _ => rfl
  | [], y :: r, _, _, h => by have := (h y).mpr (by simp); simp at this
  | x :: l, [], _, _, h => by have := (h x).mp (by simp); simp at this
  | x :: l, y :: r, h1, h2, h => by
    have a1 := List.pairwise_cons.mp h1
    have a2 := List.pairwise_cons.mp h2
    have e : x = y := by
      have b1 := (h x).mp (by simp)
      have b2 := (h y).mpr (by simp)
      rcases List.mem_cons.mp b1 with b1 | b1
      · exact b1
      · rcases List.mem_cons.mp b2 with b2 | b2
        · exact b2.symm
        · have := a1.1 y b2
          have := a2.1 x b1
          omega
    subst e
    congr 1
    refine rise_uniq a1.2 a2.2 (fun v => ?_)
    constructor
    · intro hv
      rcases List.mem_cons.mp ((h v).mp (List.mem_cons_of_mem _ hv)) with e | hv2
      · have := a1.1 v hv; omega
      · exact hv2
    · intro hv
      rcases List.mem_cons.mp ((h v).mpr (List.mem_cons_of_mem _ hv)) with e | hv2
      · have := a2.1 v hv; omega
      · exact hv2
/-- a rising row is the rising list of what stands in it -/
theorem rise_row {f : Int → Int} {D : Nat} {l : List Int} (hf : sInc f D) (hl : l.Pairwise (· < ·)) (h : ∀ v : Int, (∃ x : Int, 0 ≤ x ∧ x < D ∧ f x = v) ↔ v ∈ l) : D = l.length ∧ ∀ x : Int, 0 ≤ x → x < D → f x = lf l x := by
  have e : (List.range D).map (fun i : Nat => f i) = l := by
    refine rise_uniq ?_ hl (fun v => ?_)
    · rw [List.pairwise_map]
      refine List.Pairwise.imp_of_mem ?_ (List.pairwise_lt_range)
      intro a b ha hb hab
      simp only [List.mem_range] at ha hb
      exact hf a b (by omega) (by omega) (by omega)
    · rw [← h v]
      simp only [List.mem_map, List.mem_range]
      constructor
      · rintro ⟨a, ha, rfl⟩; exact ⟨a, by omega, by omega, rfl⟩
      · rintro ⟨x, h0, h1, rfl⟩; exact ⟨x.toNat, by omega, by rw [show ((x.toNat : Nat) : Int) = x by omega]⟩
  refine ⟨by rw [← e]; simp, fun x h0 h1 => ?_⟩
  rw [← e]
  unfold lf
  rw [List.getD_eq_getElem?_getD, List.getElem?_map, List.getElem?_range (by omega)]
  simp only [Option.map_some, Option.getD_some]
  rw [show ((x.toNat : Nat) : Int) = x by omega]
theorem lf_inj {l : List Int} (hl : l.Pairwise (· < ·)) {x y : Int} (hx0 : 0 ≤ x) (hx : x < l.length) (hy0 : 0 ≤ y) (hy : y < l.length) (e : lf l x = lf l y) : x = y := by
  unfold lf at e
  rw [List.getD_eq_getElem?_getD, List.getD_eq_getElem?_getD, List.getElem?_eq_getElem (by omega), List.getElem?_eq_getElem (by omega)] at e
  simp only [Option.getD_some] at e
  rcases Int.lt_trichotomy x y with h | h | h
  · have := List.pairwise_iff_getElem.mp hl x.toNat y.toNat (by omega) (by omega) (by omega); omega
  · exact h
  · have := List.pairwise_iff_getElem.mp hl y.toNat x.toNat (by omega) (by omega) (by omega); omega
