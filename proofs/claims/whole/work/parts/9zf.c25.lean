abbrev zLr := List (Int → Int)
/-- the rows that come of one choice -/
def gEx (n : Nat) (may : Int → Int → Bool) (u : Nat) (mt : Int → Int) (i : Int) : Int → zLr := fun x => if mt x < 0 ∧ may i x = true then sLay n may u (sUp mt i x) else []
theorem ptT_in {m m' : zM} {t : Int} (h : ptT m t) (hs : ∀ a j, t ≤ a → a < t + 28 → m' a j = m a j) : ptT m' t := by
  obtain ⟨h1, h2, h3, h4⟩ := h
  refine ⟨?_, fun i q0 q1 => by rw [hs _ _ (by omega) (by omega)]; exact h2 i q0 q1, fun p q0 q1 => by rw [hs _ _ (by omega) (by omega)]; exact h3 p q0 q1, fun p q a1 a2 a3 a4 => by rw [hs _ _ (by omega) (by omega), hs _ _ (by omega) (by omega)]; exact h4 p q a1 a2 a3 a4⟩
  rw [hs t _ (by omega) (by omega), hs t _ (by omega) (by omega), hs t _ (by omega) (by omega), hs t _ (by omega) (by omega), hs t _ (by omega) (by omega), hs t _ (by omega) (by omega), hs t _ (by omega) (by omega), hs t _ (by omega) (by omega), hs t _ (by omega) (by omega), hs t _ (by omega) (by omega), hs t _ (by omega) (by omega)]
  exact h1
theorem cFl_in {m m' : zM} {t : Int} {c w q : Int → Int} {n : Int} (h : cFl m t c w q n) (hs : ∀ a j, t ≤ a → a < t + 28 → m' a j = m a j) : cFl m' t c w q n := by
  obtain ⟨h1, h2, h3, h4⟩ := h
  refine ⟨by rw [hs _ _ (by omega) (by omega)]; exact h1, fun i q0 q1 => ?_, fun i j i0 i1 j0 j1 hm => by rw [hs _ _ (by omega) (by omega)]; exact h3 i j i0 i1 j0 j1 hm, by rw [hs _ _ (by omega) (by omega)]; exact h4⟩
  rw [hs _ _ (by omega) (by omega), hs _ _ (by omega) (by omega), hs _ _ (by omega) (by omega)]
  exact h2 i q0 q1
theorem cTh_in {m m' : zM} {t : Int} {c : Int → Int} (hp : ptT m t) (hw : wfD c) (h : cTh m t c) (hs : ∀ a j, t ≤ a → a < t + 28 → m' a j = m a j) : cTh m' t c := by
  have b3 := hw.2.2.1
  obtain ⟨h1, h2, h3, h4, h5, h6⟩ := h
  refine ⟨(hs _ _ (by omega) (by omega)).trans h1, (hs _ _ (by omega) (by omega)).trans h2, (hs _ _ (by omega) (by omega)).trans h3, fun f q0 q1 => ?_, fun k q0 q1 => ?_, fun p q0 q1 => ?_⟩
  · rw [hs _ _ (by omega) (by omega), hs _ _ (by omega) (by omega), hs _ _ (by omega) (by omega)]; exact h4 f q0 q1
  · rw [hs _ _ (by omega) (by omega), hs _ _ (by omega) (by omega)]; exact h5 k q0 q1
  · rw [hs (t + 6) _ (by omega) (by omega)]
    obtain ⟨i, i0, i1, i2⟩ := hp.2.2.1 p q0 (by omega)
    have h := h6 p q0 q1
    unfold cPt at h ⊢
    rw [hs _ _ (by omega) (by omega), hs _ _ (by omega) (by omega), hs _ _ (by omega) (by omega)]
    exact ⟨h.1, h.2.1, h.2.2.1, fun k r0 r1 => by rw [hs _ _ (by omega) (by omega)]; exact h.2.2.2 k r0 r1⟩
def fXt (p a : Int) : List (Int × Option Int) := [(a, none), (a + 1, none), (p, some 2)]
/-- rows so far -/
def xT (m : zM) (p a : Int) (n : Nat) (od br : Int → Bool) (A : Nat) (L : List (Int → Int)) : Prop := m p 2 = (L.length : Int) ∧ ∀ (t : Nat) (mt : Int → Int), L[t]? = some mt → m a (t : Int) = ((pkN (dg (sMk A mt) n) 12 : Nat) : Int) ∧ m (a + 1) (t : Int) = pF n od br (sMk A mt)
theorem fXt_n {m m' : zM} {p a v k : Int} (f : zfr (fXt p a) m m') (h : m p k = v) (hk : k ≠ 2) (pa : p ≠ a) (pb : p ≠ a + 1) : m' p k = v := by
  rw [f p k (by simp [fXt]; omega) (by simp [fXt]; omega)]; exact h
theorem fXt_o {m m' : zM} {p a b k : Int} (f : zfr (fXt p a) m m') (h1 : b ≠ p) (h2 : b ≠ a) (h3 : b ≠ a + 1) : m' b k = m b k := f b k (by simp [fXt]; omega) (by simp [fXt]; omega)
theorem fXt_w {m m' : zM} {p a v : Int} (f : zfr (fXt p a) m m') (h : m 6 0 = v) (h1 : (6 : Int) ≠ p) (h2 : (6 : Int) ≠ a) (h3 : (6 : Int) ≠ a + 1) : m' 6 0 = v := (fXt_o f h1 h2 h3).trans h
theorem fXt_W {m m' : zM} {p a : Int} {n : Nat} {may : Int → Int → Bool} (f : zfr (fXt p a) m m') (h : wT m n may) (h1 : 7 < p) (h2 : 7 < a) (h3 : 7 < a + 1) : wT m' n may := ⟨(fXt_o f (by omega) (by omega) (by omega)).trans h.1, fun x hx => (fXt_o f (by omega) (by omega) (by omega)).trans (h.2 x hx)⟩
theorem fXt_t {m m' : zM} {p a t : Int} (f : zfr (fXt p a) m m') (h1 : p < t ∨ t + 28 ≤ p) (h2 : a + 1 < t ∨ t + 28 ≤ a) : ∀ b j, t ≤ b → b < t + 28 → m' b j = m b j := fun b j hb1 hb2 => fXt_o f (by omega) (by omega) (by omega)
theorem fXt_st {m m1 : zM} {p a k row f v : Int} (hf : zfr (fXt p a) m m1) : zfr (fXt p a) m (zu (zu (zu m1 a k row) (a + 1) k f) p 2 v) := zfr_uj (zfr_ua (zfr_ua hf (by simp [fXt])) (by simp [fXt])) (by simp [fXt])
theorem xT_st {m : zM} {p a : Int} {n : Nat} {od br : Int → Bool} {A : Nat} {L : zLr} {mt : Int → Int} (h : xT m p a n od br A L) (pa : p ≠ a) (pb : p ≠ a + 1) : xT (zu (zu (zu m a (L.length : Int) ((pkN (dg (sMk A mt) n) 12 : Nat) : Int)) (a + 1) (L.length : Int) (pF n od br (sMk A mt))) p 2 ((L.length : Int) + 1)) p a n od br A (L ++ [mt]) := by
  refine ⟨by rw [zu_s, List.length_append]; rfl, fun t mt' ht => ?_⟩
  rw [zu_a (Ne.symm pa), zu_a (Ne.symm pb), zu_a (by omega)]
  rcases Nat.lt_or_ge t L.length with g | g
  · rw [List.getElem?_append_left g] at ht
    rw [zu_j (by omega), zu_j (by omega), zu_a (by omega)]
    exact h.2 t mt' ht
  · rw [List.getElem?_append_right g] at ht
    rcases Nat.eq_or_lt_of_le g with e | e
    · rw [← e, Nat.sub_self] at ht
      cases ht
      rw [← e, zu_s, zu_s]
      exact ⟨rfl, rfl⟩
    · obtain ⟨z, hz⟩ : ∃ z, t - L.length = z + 1 := ⟨t - L.length - 1, by omega⟩
      rw [hz] at ht
      cases ht
theorem may_self {c w q : Int → Int} {i : Int} : cMay c w q i i = false := by
  unfold cMay
  rw [decide_eq_false_iff_not]
  exact fun h => h.1 (Or.inl rfl)
theorem l_ext (d : Nat) {E : zE} {m : zM} {P : Option zV → zM → Prop} (p a cap : Int) (sp : E.1 p = (10, 7)) (sa : E.1 a = (2, cap)) (sb : E.1 (a + 1) = (1, cap)) (a0 : 0 < a) (kb : cap ≤ 10395) (pa : p ≠ a) (pb : p ≠ a + 1) (p7 : 7 < p) (a7 : 7 < a) (s6 : E.1 6 = (16, 3)) (s7 : E.1 7 = (1, 4096)) (t : Int) (t7 : 7 < t) (sT : shT E t) (pt0 : p < t ∨ t + 28 ≤ p) (at0 : a + 1 < t ∨ t + 28 ≤ a) (c w q : Int → Int) (n : Int) (hw : wfD c) (hl : wfL c w q n) (hev : ∀ x, 0 ≤ x → x < n → w x % 2 = 1 → c (4 + 3 * (w x / 2) + 1) = 1) (A : Nat) (hA : A < 2 ^ n.toNat) (q0 : m p 0 = a) (q1 : m p 1 = a + 1) (q3 : m p 3 = (A : Int)) (q4 : m p 4 = n) (pW : m 6 0 = 7) (hW : wT m n.toNat (cMay c w q)) (pT : ptT m t) (hF : cFl m t c w q n) (u : Nat) (rec : ∀ (m1 : zM) (S k : Nat) (mt : Int → Int) (L : List (Int → Int)), u + k = 6 → zfr (fXt p a) m m1 → xT m1 p a n.toNat (cOd c w) (cBr c w) A (L) → xI n.toNat A mt S k → (L.length : Int) + (sLay n.toNat (cMay c w q) u mt).length ≤ cap → zR zX4_extend (d + u + 3) [zP p, zP t, zP 6, zI (S : Nat), zJ ((pkN (dg (sMk A mt) n.toNat) 12 : Nat) : Int), zI (pF n.toNat (cOd c w) (cBr c w) (sMk A mt)), zI (k : Nat)] m1 E E (fun r m' => r = none ∧ zfr (fXt p a) m m' ∧ xT m' p a n.toNat (cOd c w) (cBr c w) A (L ++ sLay n.toNat (cMay c w q) u mt))) (S k : Nat) (mt : Int → Int) (hS0 : S ≠ 0) (hk : u + 1 + k = 6) (hX : xI n.toNat A mt S k) (C : Nat) (hC : C < 4096) (hCb : ∀ y : Nat, C.testBit y = true ↔ cMay c w q ((lo S : Nat) : Int) (y : Int) = true ∧ S.testBit y = true) (hCn : 0 = 0) : ∀ (j : Nat) (x : Nat) (L : zLr) (m1 : zM), (x + j = n.toNat) → (lo S < x) → (zfr (fXt p a) m m1) → (xT m1 p a n.toNat (cOd c w) (cBr c w) A (L)) → ((L.length : Int) + (sCat (gEx n.toNat (cMay c w q) u mt ((lo S : Nat) : Int)) j (x : Int)).length ≤ cap) → (∀ m', zfr (fXt p a) m m' → xT m' p a n.toNat (cOd c w) (cBr c w) A (L ++ sCat (gEx n.toNat (cMay c w q) u mt ((lo S : Nat) : Int)) j (x : Int)) → P none m') → zA zX4_extend (d + u + 4) E E P 48 [zP p, zP t, zP 6, zI (S : Nat), zJ ((pkN (dg (sMk A mt) n.toNat) 12 : Nat) : Int), zN, zI (pF n.toNat (cOd c w) (cBr c w) (sMk A mt)), zI (k : Nat), zI (lo S : Nat), zI (C : Nat), zI (x : Nat), zN, zN] [] m1 E := by
  intro j
  induction j with
  | zero =>
    intro x L m1 hj hxl hf hx1 hcap hP
    have hn := hl.1
    have h12 : 2 ^ n.toNat ≤ 2 ^ 12 := Nat.pow_le_pow_right (by decide) (by omega)
    have hSl := hX.1
    have hlo := lo_n (n := n.toNat) (by omega) hX.1 hS0
    have hLo : ∀ y : Int, 0 ≤ y → y < n.toNat → y < sMk A mt y → y < ((lo S : Nat) : Int) := fun y y0 y1 y2 => hX.2.2.2.2.1 y (lo S) y0 y1 y2 hlo.2.1
    have hpl : 2 ^ lo S ≤ 2 ^ 12 := Nat.pow_le_pow_right (by decide) (by omega)
    have hpx : 2 ^ x ≤ 2 ^ 12 := Nat.pow_le_pow_right (by decide) (by omega)
    have pT1 : ptT m1 t := ptT_in pT (fXt_t hf pt0 at0)
    have hF1 : cFl m1 t c w q n := cFl_in hF (fXt_t hf pt0 at0)
    have hrow : pkN (dg (sMk A mt) n.toNat) 12 < 9223372036854775808 := Nat.lt_of_lt_of_le (pkN_lt 12 (dg_16 hX.2.2.2.1 (by omega))) (by decide)
    refine z_iload dX4_extend_48 rfl ?_
    refine z_aload_n dX4_extend_50 rfl ?_
    refine z_gIv 4 rfl flX4_40 dX4_extend_51 sp rfl (fXt_n hf q4 (by decide) pa pb) ?_
    refine z_icmp_ge (tgt := 141) dX4_extend_54 rfl (fun h54 => ?_) (fun h => absurd (by omega) h)
    refine z_vret dX4_extend_141 rfl rfl ?_
    refine hP m1 hf ?_
    rw [show sCat (gEx n.toNat (cMay c w q) u mt ((lo S : Nat) : Int)) 0 (x : Int) = [] from rfl, List.append_nil]
    exact hx1
  | succ j ih =>
    intro x L m1 hj hxl hf hx1 hcap hP
    have hn := hl.1
    have h12 : 2 ^ n.toNat ≤ 2 ^ 12 := Nat.pow_le_pow_right (by decide) (by omega)
    have hSl := hX.1
    have hlo := lo_n (n := n.toNat) (by omega) hX.1 hS0
    have hLo : ∀ y : Int, 0 ≤ y → y < n.toNat → y < sMk A mt y → y < ((lo S : Nat) : Int) := fun y y0 y1 y2 => hX.2.2.2.2.1 y (lo S) y0 y1 y2 hlo.2.1
    have hpl : 2 ^ lo S ≤ 2 ^ 12 := Nat.pow_le_pow_right (by decide) (by omega)
    have hpx : 2 ^ x ≤ 2 ^ 12 := Nat.pow_le_pow_right (by decide) (by omega)
    have pT1 : ptT m1 t := ptT_in pT (fXt_t hf pt0 at0)
    have hF1 : cFl m1 t c w q n := cFl_in hF (fXt_t hf pt0 at0)
    have hrow : pkN (dg (sMk A mt) n.toNat) 12 < 9223372036854775808 := Nat.lt_of_lt_of_le (pkN_lt 12 (dg_16 hX.2.2.2.1 (by omega))) (by decide)
    have hpk := pkp_lt (i := lo S) (j := x) (by omega) (by omega)
    rw [sCat_s, List.length_append] at hcap
    rw [sCat_s] at hP
    have hcl0 := Int.natCast_nonneg (sCat (gEx n.toNat (cMay c w q) u mt ((lo S : Nat) : Int)) j ((x : Int) + 1)).length
    have hxe : (x : Int) + 1 = ((x + 1 : Nat) : Int) := by omega
    rw [hxe] at hcap hP hcl0
    refine z_iload dX4_extend_48 rfl ?_
    refine z_aload_n dX4_extend_50 rfl ?_
    refine z_gIv 4 rfl flX4_40 dX4_extend_51 sp rfl (fXt_n hf q4 (by decide) pa pb) ?_
    refine z_icmp_ge (tgt := 141) dX4_extend_54 rfl (fun h => absurd h (by omega)) (fun h54 => ?_)
    refine z_iload_n dX4_extend_57 rfl ?_
    refine z_iconst dX4_extend_58 (by decide) ?_
    refine z_iload dX4_extend_59 rfl ?_
    refine z_ishl dX4_extend_61 ?_
    rw [zshl_1 (by omega)]
    refine z_iconst dX4_extend_62 (by decide) ?_
    refine z_iload dX4_extend_63 rfl ?_
    refine z_ishl dX4_extend_65 ?_
    rw [zshl_1 (by omega)]
    refine z_ior dX4_extend_66 ?_
    rw [zor_N (by omega) (by omega)]
    refine z_iconst dX4_extend_67 (by decide) ?_
    refine z_ixor dX4_extend_68 ?_
    refine z_iand dX4_extend_69 ?_
    rw [zandn_N (by omega) (Nat.or_lt_two_pow (n := 31) (by omega) (by omega)), show S ^^^ (S &&& (2 ^ lo S ||| 2 ^ x)) = rmv S (lo S) x from rfl]
    refine z_istore dX4_extend_70 (Nat.le_of_ble_eq_true rfl) ?_
    refine z_iload dX4_extend_72 rfl ?_
    refine z_iload dX4_extend_74 rfl ?_
    refine z_ishr dX4_extend_76 ?_
    refine z_iconst dX4_extend_77 (by decide) ?_
    refine z_iand dX4_extend_78 ?_
    rw [zbit (by omega) (by omega)]
    try dsimp only [zs0, zsI, zsP, zsN, zsJ, zsS, zst2, Nat.reduceAdd]
    refine z_if_eq (tgt := 135) dX4_extend_79 rfl (fun h79 => ?_) (fun h79 => ?_)
    · have hCx : ¬ C.testBit x = true := fun e => by
        rw [zb_t e] at h79; exact absurd h79 (by decide)
      refine z_inc dX4_extend_135 rfl (by omega) ?_
      refine z_goto (tgt := 48) dX4_extend_138 rfl ?_
      try dsimp only [zs0, zsI, zsP, zsN, zsJ, zsS, zst2, Nat.reduceAdd]
      refine zA_wk [_, _, _, _, _, zN, _, _, _, _, _, zN, zN] (by exact ⟨Or.inr rfl, Or.inr rfl, Or.inr rfl, Or.inr rfl, Or.inr rfl, Or.inl rfl, Or.inr rfl, Or.inr rfl, Or.inr rfl, Or.inr rfl, Or.inr rfl, Or.inl rfl, Or.inl rfl, trivial⟩) ?_
      rw [show (x : Int) + 1 = ((x + 1 : Nat) : Int) by omega]
      have hg0 : (gEx n.toNat (cMay c w q) u mt ((lo S : Nat) : Int)) (x : Int) = [] := by
        show (if _ then _ else _) = _
        rw [if_neg (fun g => hCx ((hCb x).mpr ⟨g.2, by have := (hX.2.1 (x : Int) (by omega) (by omega)).mp g.1; rw [Int.toNat_natCast] at this; exact this⟩))]
      rw [hg0] at hcap hP
      exact ih (x + 1) L m1 (by omega) (by omega) hf hx1 (by rw [List.length_nil] at hcap; omega) hP
    · have hCx : C.testBit x = true := by
        by_cases e : C.testBit x = true
        · exact e
        · rw [zb_f e] at h79; exact absurd rfl h79
      have hx := (hCb x).mp hCx
      have hX1 := xI_up (j := x) (by omega) hX (by omega) hS0 (by omega) hx.2
      have hrl : rmv S (lo S) x < 2 ^ n.toNat := rmv_lt hX.1
      have fi := xI_free (by omega) hX hlo.2.1
      have fj := xI_free (by omega) hX hx.2
      have hgx : (gEx n.toNat (cMay c w q) u mt ((lo S : Nat) : Int)) (x : Int) = sLay n.toNat (cMay c w q) u (sUp mt ((lo S : Nat) : Int) (x : Int)) := by
        show (if _ then _ else _) = _
        rw [if_pos ⟨fj.1, hx.1⟩]
      have hlen := xI_len (may := cMay c w q) hX1 (show u + (k + 1) = 6 by omega)
      refine z_aload_n dX4_extend_82 rfl ?_
      refine z_iload dX4_extend_83 rfl ?_
      refine z_callV mlX4_19 dX4_extend_85 s6 (av := [_]) rfl rfl (Nat.le_of_ble_eq_true rfl) (c_of _ s6 s7 (fXt_w hf pW (by omega) (by omega) (by omega)) n.toNat (by omega) (cMay c w q) (fXt_W hf hW (by omega) (by omega) (by omega)) (rmv S (lo S) x) hrl) (Nat.le_refl _) (Nat.le_refl _) (Nat.le_refl _) (Nat.le_refl _) ?_
      rintro _ _ ⟨rfl, rfl⟩
      refine z_if_le (tgt := 135) dX4_extend_88 rfl (fun h88 => ?_) (fun h88 => ?_)
      · refine z_inc dX4_extend_135 rfl (by omega) ?_
        refine z_goto (tgt := 48) dX4_extend_138 rfl ?_
        try dsimp only [zs0, zsI, zsP, zsN, zsJ, zsS, zst2, Nat.reduceAdd]
        refine zA_wk [_, _, _, _, _, zN, _, _, _, _, _, zN, zN] (by exact ⟨Or.inr rfl, Or.inr rfl, Or.inr rfl, Or.inr rfl, Or.inr rfl, Or.inl rfl, Or.inr rfl, Or.inr rfl, Or.inr rfl, Or.inr rfl, Or.inr rfl, Or.inl rfl, Or.inl rfl, trivial⟩) ?_
        rw [show (x : Int) + 1 = ((x + 1 : Nat) : Int) by omega]
        have hg0 : (gEx n.toNat (cMay c w q) u mt ((lo S : Nat) : Int)) (x : Int) = [] := by
          rw [hgx]
          exact List.length_eq_zero_iff.mp (by omega)
        rw [hg0] at hcap hP
        exact ih (x + 1) L m1 (by omega) (by omega) hf hx1 (by rw [List.length_nil] at hcap; omega) hP
      · have hbc := btw_cr (i := lo S) (j := x) (by omega) hA hX
        have hbt := btw_tr (i := lo S) (j := x) (od := (cOd c w)) (by omega) hA hX
        have hcl := cr_le (j := (x : Int)) hX.2.2.2.1 hLo
        have htri := tri_le (q := k + 1) (by omega)
        have hop := hX.2.2.2.2.2.1
        have hcr := hX.2.2.2.2.2.2.2
        have htr1 : tri (k + 1) = tri k + k := rfl
        have hsum : crR n.toNat (sMk A mt) + ((sPop 12 (btw A S (lo S) x) : Nat) : Int) ≤ 15 := by omega
        have eM := sMk_up (A := A) (mt := mt) (i := ((lo S : Nat) : Int)) (k := (x : Int)) (by omega) (by omega) (by omega) (by omega) (by rw [Int.toNat_natCast]; exact hX.2.2.1 _ hlo.2.1) (by rw [Int.toNat_natCast]; exact hX.2.2.1 _ hx.2)
        have ef : crR n.toNat (sMk A mt) + ((sPop 12 (btw A S (lo S) x) : Nat) : Int) + 16 * ((trR n.toNat (cOd c w) (cBr c w) (sMk A mt) + (if cOd c w ((lo S : Nat) : Int) = true then zb (cBr c w ((lo S : Nat) : Int) = true) + ((sPop 12 (btw A S (lo S) x &&& zmask (fun x => cOd c w (x : Int)) n.toNat) : Nat) : Int) else 0)) % 2) = pF n.toNat (cOd c w) (cBr c w) (sMk A (sUp mt ((lo S : Nat) : Int) (x : Int))) := by
          unfold pF
          rw [← eM, crR_up hX.2.2.2.1 (by omega) (by omega) (by omega) fi.2 fj.2 hLo, trR_up hX.2.2.2.1 (by omega) (by omega) (by omega) fi.2 fj.2 hLo, hbc, hbt]
        refine z_aload_n dX4_extend_91 rfl ?_
        refine z_aload_n dX4_extend_92 rfl ?_
        refine z_gIv 3 rfl flX4_32 dX4_extend_93 sp rfl (fXt_n hf q3 (by decide) pa pb) ?_
        refine z_iload_n dX4_extend_96 rfl ?_
        refine z_iconst dX4_extend_97 (by decide) ?_
        refine z_ixor dX4_extend_98 ?_
        refine z_iand dX4_extend_99 ?_
        rw [zandn_N (by omega) (by omega)]
        refine z_iload dX4_extend_100 rfl ?_
        refine z_iload dX4_extend_102 rfl ?_
        refine z_iload dX4_extend_104 rfl ?_
        refine z_callS mlX4_62 dX4_extend_106 (av := [_, _, _, _, _]) rfl rfl (Nat.le_of_ble_eq_true rfl) (c_withLine (d + u + 2) t t7 sT pT1 c w q n hw hl hF1 hev A S (lo S) x hA (by omega) (by omega) (crR n.toNat (sMk A mt)) (trR n.toNat (cOd c w) (cBr c w) (sMk A mt)) (crR_nn _ _) (trR_nn _ _ _ _) hsum) (Nat.le_refl _) (Nat.le_refl _) (Nat.le_refl _) (Nat.le_refl _) ?_
        rintro _ _ ⟨rfl, rfl⟩
        rw [ef]
        refine z_istore dX4_extend_109 (Nat.le_of_ble_eq_true rfl) ?_
        refine z_aload_n dX4_extend_111 rfl ?_
        refine z_aload_n dX4_extend_112 rfl ?_
        refine z_aload_n dX4_extend_113 rfl ?_
        refine z_iload dX4_extend_114 rfl ?_
        refine z_lload dX4_extend_116 rfl ?_
        refine z_iload dX4_extend_118 rfl ?_
        refine z_iload dX4_extend_120 rfl ?_
        try dsimp only [zs0, zsI, zsP, zsN, zsJ, zsS, zst2, Nat.reduceAdd]
        refine z_callS mlX4_66 dX4_extend_122 (av := [_, _]) rfl rfl (Nat.le_of_ble_eq_true rfl) (c_packed _ (lo S) x (by omega) (by omega)) (Nat.le_refl _) (Nat.le_refl _) (Nat.le_refl _) (Nat.le_refl _) ?_
        rintro _ _ ⟨rfl, rfl⟩
        refine z_lor dX4_extend_125 ?_
        rw [zlor_N hrow (by omega), dg_up hX.2.2.2.1 (by omega) (by omega) (by omega) fi.2 fj.2]
        refine z_iload dX4_extend_126 rfl ?_
        refine z_iload dX4_extend_128 rfl ?_
        refine z_iconst dX4_extend_130 (by decide) ?_
        refine z_add dX4_extend_131 (by omega) ?_
        rw [show (k : Int) + 1 = ((k + 1 : Nat) : Int) by omega, eM]
        refine z_callV mlX4_41 dX4_extend_132 sp (av := [_, _, _, _, _, _]) rfl rfl (Nat.le_of_ble_eq_true rfl) (rec m1 (rmv S (lo S) x) (k + 1) (sUp mt ((lo S : Nat) : Int) (x : Int)) L (by omega) hf hx1 hX1 (by rw [hgx] at hcap; omega)) (Nat.le_refl _) (Nat.le_refl _) (Nat.le_refl _) (Nat.le_refl _) ?_
        rintro _ m2 ⟨rfl, f2, x2⟩
        refine z_inc dX4_extend_135 rfl (by omega) ?_
        refine z_goto (tgt := 48) dX4_extend_138 rfl ?_
        try dsimp only [zs0, zsI, zsP, zsN, zsJ, zsS, zst2, Nat.reduceAdd]
        refine zA_wk [_, _, _, _, _, zN, _, _, _, _, _, zN, zN] (by exact ⟨Or.inr rfl, Or.inr rfl, Or.inr rfl, Or.inr rfl, Or.inr rfl, Or.inl rfl, Or.inr rfl, Or.inr rfl, Or.inr rfl, Or.inr rfl, Or.inr rfl, Or.inl rfl, Or.inl rfl, trivial⟩) ?_
        rw [show (x : Int) + 1 = ((x + 1 : Nat) : Int) by omega]
        rw [← hgx] at x2
        exact ih (x + 1) (L ++ (gEx n.toNat (cMay c w q) u mt ((lo S : Nat) : Int)) (x : Int)) m2 (by omega) (by omega) f2 x2 (by rw [List.length_append]; omega) (fun m3 g1 g2 => hP m3 g1 (by rw [List.append_assoc] at g2; exact g2))

theorem c_extend (d : Nat) {E : zE} {m : zM} (p a cap : Int) (sp : E.1 p = (10, 7)) (sa : E.1 a = (2, cap)) (sb : E.1 (a + 1) = (1, cap)) (a0 : 0 < a) (kb : cap ≤ 10395) (pa : p ≠ a) (pb : p ≠ a + 1) (p7 : 7 < p) (a7 : 7 < a) (s6 : E.1 6 = (16, 3)) (s7 : E.1 7 = (1, 4096)) (t : Int) (t7 : 7 < t) (sT : shT E t) (pt0 : p < t ∨ t + 28 ≤ p) (at0 : a + 1 < t ∨ t + 28 ≤ a) (c w q : Int → Int) (n : Int) (hw : wfD c) (hl : wfL c w q n) (hev : ∀ x, 0 ≤ x → x < n → w x % 2 = 1 → c (4 + 3 * (w x / 2) + 1) = 1) (A : Nat) (hA : A < 2 ^ n.toNat) (q0 : m p 0 = a) (q1 : m p 1 = a + 1) (q3 : m p 3 = (A : Int)) (q4 : m p 4 = n) (pW : m 6 0 = 7) (hW : wT m n.toNat (cMay c w q)) (pT : ptT m t) (hF : cFl m t c w q n) : ∀ (u : Nat) (m1 : zM) (S k : Nat) (mt : Int → Int) (L : zLr), u + k = 6 → zfr (fXt p a) m m1 → xT m1 p a n.toNat (cOd c w) (cBr c w) A (L) → xI n.toNat A mt S k → (L.length : Int) + (sLay n.toNat (cMay c w q) u mt).length ≤ cap → zR zX4_extend (d + u + 3) [zP p, zP t, zP 6, zI (S : Nat), zJ ((pkN (dg (sMk A mt) n.toNat) 12 : Nat) : Int), zI (pF n.toNat (cOd c w) (cBr c w) (sMk A mt)), zI (k : Nat)] m1 E E (fun r m' => r = none ∧ zfr (fXt p a) m m' ∧ xT m' p a n.toNat (cOd c w) (cBr c w) A (L ++ sLay n.toNat (cMay c w q) u mt)) := by
  intro u
  induction u with
  | zero =>
    intro m1 S k mt L hu hf hx hX hcap
    have hn := hl.1
    have h12 : 2 ^ n.toNat ≤ 2 ^ 12 := Nat.pow_le_pow_right (by decide) (by omega)
    have hSl := hX.1
    have pT1 : ptT m1 t := ptT_in pT (fXt_t hf pt0 at0)
    have hF1 : cFl m1 t c w q n := cFl_in hF (fXt_t hf pt0 at0)
    refine zR_go [zP p, zP t, zP 6, zI (S : Nat), zJ ((pkN (dg (sMk A mt) n.toNat) 12 : Nat) : Int), zN, zI (pF n.toNat (cOd c w) (cBr c w) (sMk A mt)), zI (k : Nat), zN, zN, zN, zN, zN] (by decide +kernel) (Nat.le_of_ble_eq_true rfl) rfl rfl ?_
    refine z_iload_n dX4_extend_0 rfl ?_
    refine z_if_ne (tgt := 13) dX4_extend_1 rfl (fun h1 => ?_) (fun h1 => ?_)
    · have hS0 : S ≠ 0 := by omega
      refine z_iload dX4_extend_13 rfl ?_
      refine z_bipush dX4_extend_15 rfl (by decide) ?_
      refine z_icmp_lt (tgt := 21) dX4_extend_17 rfl (fun h => absurd h (by omega)) (fun h17 => ?_)
      refine z_vret dX4_extend_20 rfl rfl ?_
      refine ⟨rfl, hf, ?_⟩
      rw [sLay_0, if_neg (by rw [xI_fst (by omega) hX hS0]; omega), List.append_nil]
      exact hx
    · have hS0 : S = 0 := by omega
      have hly : sLay n.toNat (cMay c w q) 0 mt = [mt] := sLay_one (xI_no hX hS0)
      refine z_aload_n dX4_extend_4 rfl ?_
      refine z_lload dX4_extend_5 rfl ?_
      refine z_iload dX4_extend_7 rfl ?_
      refine z_callV mlX4_52 dX4_extend_9 sp (av := [_, _]) rfl rfl (Nat.le_of_ble_eq_true rfl) (c_store _ p a cap sp sa sb a0 (fXt_n hf q0 (by decide) pa pb) (fXt_n hf q1 (by decide) pa pb) pa pb (L.length : Int) (by omega) (by rw [hly] at hcap; simp only [List.length_cons, List.length_nil] at hcap; omega) kb hx.1 _ _) (Nat.le_refl _) (Nat.le_refl _) (Nat.le_refl _) (Nat.le_refl _) ?_
      rintro _ m2 ⟨rfl, rfl⟩
      refine z_vret dX4_extend_12 rfl rfl ?_
      refine ⟨rfl, fXt_st hf, ?_⟩
      rw [hly]
      exact xT_st hx pa pb
  | succ u rec =>
    intro m1 S k mt L hu hf hx hX hcap
    have hn := hl.1
    have h12 : 2 ^ n.toNat ≤ 2 ^ 12 := Nat.pow_le_pow_right (by decide) (by omega)
    have hSl := hX.1
    have pT1 : ptT m1 t := ptT_in pT (fXt_t hf pt0 at0)
    have hF1 : cFl m1 t c w q n := cFl_in hF (fXt_t hf pt0 at0)
    have ed : d + (u + 1) + 3 = d + u + 4 := by omega
    rw [ed]
    refine zR_go [zP p, zP t, zP 6, zI (S : Nat), zJ ((pkN (dg (sMk A mt) n.toNat) 12 : Nat) : Int), zN, zI (pF n.toNat (cOd c w) (cBr c w) (sMk A mt)), zI (k : Nat), zN, zN, zN, zN, zN] (by decide +kernel) (Nat.le_of_ble_eq_true rfl) rfl rfl ?_
    refine z_iload_n dX4_extend_0 rfl ?_
    refine z_if_ne (tgt := 13) dX4_extend_1 rfl (fun h1 => ?_) (fun h1 => ?_)
    · have hS0 : S ≠ 0 := by omega
      have hlo := lo_n (n := n.toNat) (by omega) hX.1 hS0
      have hls : sLay n.toNat (cMay c w q) (u + 1) mt = sCat (gEx n.toNat (cMay c w q) u mt ((lo S : Nat) : Int)) (n.toNat - 1 - lo S) (((lo S : Nat) : Int) + 1) := by
        rw [sLay_s, if_neg (by rw [xI_fst (by omega) hX hS0]; omega), xI_fst (by omega) hX hS0, Int.toNat_natCast]
        rfl
      have hmk := mk_lt c w q ((lo S : Nat) : Int) hn
      rw [hls] at hcap
      refine z_iload dX4_extend_13 rfl ?_
      refine z_bipush dX4_extend_15 rfl (by decide) ?_
      refine z_icmp_lt (tgt := 21) dX4_extend_17 rfl (fun h17 => ?_) (fun h => absurd (by omega) h)
      refine z_iload_n dX4_extend_21 rfl ?_
      refine z_callS mlX4_56 dX4_extend_22 (av := [_]) rfl rfl (Nat.le_of_ble_eq_true rfl) (c_leastOf _ S (by omega) hS0) (Nat.le_refl _) (Nat.le_refl _) (Nat.le_refl _) (Nat.le_refl _) ?_
      rintro _ _ ⟨rfl, rfl⟩
      refine z_istore dX4_extend_25 (Nat.le_of_ble_eq_true rfl) ?_
      refine z_aload_n dX4_extend_27 rfl ?_
      refine z_gP 8 rfl (r := t + 9) flX4_59 dX4_extend_28 (sT0 sT) rfl (pT8 pT1) (by omega) ?_
      refine z_iload dX4_extend_31 rfl ?_
      refine z_ialv dX4_extend_33 (sT9 sT) (by omega) (by omega) (hF1.2.1 ((lo S : Nat) : Int) (by omega) (by omega)).2.2 ?_
      refine z_iload_n dX4_extend_34 rfl ?_
      refine z_iand dX4_extend_35 ?_
      rw [zand_N (by omega)]
      refine z_iload_n dX4_extend_36 rfl ?_
      refine z_iconst dX4_extend_37 (by decide) ?_
      refine z_sub dX4_extend_38 (by omega) ?_
      refine z_iand dX4_extend_39 ?_
      rw [show ((S : Nat) : Int) - 1 = ((S - 1 : Nat) : Int) by omega, zand_N (Nat.lt_of_le_of_lt Nat.and_le_left (by omega))]
      refine z_istore dX4_extend_40 (Nat.le_of_ble_eq_true rfl) ?_
      refine z_iload dX4_extend_42 rfl ?_
      refine z_iconst dX4_extend_44 (by decide) ?_
      refine z_add dX4_extend_45 (by omega) ?_
      refine z_istore dX4_extend_46 (Nat.le_of_ble_eq_true rfl) ?_
      try dsimp only [zs0, zsI, zsP, zsN, zsJ, zsS, zst2, Nat.reduceAdd]
      refine zA_wk [_, _, _, _, _, zN, _, _, _, _, _, zN, zN] (by exact ⟨Or.inr rfl, Or.inr rfl, Or.inr rfl, Or.inr rfl, Or.inr rfl, Or.inl rfl, Or.inr rfl, Or.inr rfl, Or.inr rfl, Or.inr rfl, Or.inr rfl, Or.inl rfl, Or.inl rfl, trivial⟩) ?_
      rw [show ((lo S : Nat) : Int) + 1 = ((lo S + 1 : Nat) : Int) by omega]
      rw [show ((lo S : Nat) : Int) + 1 = ((lo S + 1 : Nat) : Int) by omega] at hcap hls
      refine l_ext d p a cap sp sa sb a0 kb pa pb p7 a7 s6 s7 t t7 sT pt0 at0 c w q n hw hl hev A hA q0 q1 q3 q4 pW hW pT hF u rec S k mt hS0 (by omega) hX (((zmask (fun j => cMay c w q ((lo S : Nat) : Int) (j : Int)) n.toNat) &&& S) &&& (S - 1)) (Nat.lt_of_le_of_lt Nat.and_le_left (Nat.lt_of_le_of_lt Nat.and_le_left hmk)) (fun y => ?_) rfl (n.toNat - 1 - lo S) (lo S + 1) L m1 (by omega) (by omega) hf hx hcap (fun m2 g1 g2 => ⟨rfl, g1, by rw [hls]; exact g2⟩)
      have hy := (lo_12 S (by omega) hS0).2.2
      rw [Nat.and_assoc, hy, Nat.testBit_and, Bool.and_eq_true, zmask_bit, Bool.and_eq_true, decide_eq_true_eq, andn_bit, Bool.and_eq_true, Nat.testBit_two_pow]
      simp only [Bool.not_eq_true', decide_eq_false_iff_not]
      constructor
      · rintro ⟨⟨g1, g2⟩, g3, g4⟩; exact ⟨g2, g3⟩
      · rintro ⟨g1, g2⟩; exact ⟨⟨bit_lt hX.1 g2, g1⟩, g2, fun e => by rw [← e, may_self] at g1; cases g1⟩
    · have hS0 : S = 0 := by omega
      have hly : sLay n.toNat (cMay c w q) (u + 1) mt = [mt] := sLay_one (xI_no hX hS0)
      refine z_aload_n dX4_extend_4 rfl ?_
      refine z_lload dX4_extend_5 rfl ?_
      refine z_iload dX4_extend_7 rfl ?_
      refine z_callV mlX4_52 dX4_extend_9 sp (av := [_, _]) rfl rfl (Nat.le_of_ble_eq_true rfl) (c_store _ p a cap sp sa sb a0 (fXt_n hf q0 (by decide) pa pb) (fXt_n hf q1 (by decide) pa pb) pa pb (L.length : Int) (by omega) (by rw [hly] at hcap; simp only [List.length_cons, List.length_nil] at hcap; omega) kb hx.1 _ _) (Nat.le_refl _) (Nat.le_refl _) (Nat.le_refl _) (Nat.le_refl _) ?_
      rintro _ m2 ⟨rfl, rfl⟩
      refine z_vret dX4_extend_12 rfl rfl ?_
      refine ⟨rfl, fXt_st hf, ?_⟩
      rw [hly]
      exact xT_st hx pa pb
