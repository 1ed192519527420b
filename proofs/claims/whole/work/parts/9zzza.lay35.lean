/-! what holds of all pairings with one name; sums over some points -/
theorem cImg_end {c pl : Int → Int} {co : Int} (hw : wfC c) (h : cCodeOk c co = true) (hpl : ∀ x : Int, 0 ≤ x → x < c 2 → 0 ≤ pl x ∧ pl x < c 2) : (cImg c pl co / 100 = pl (co / 100) ∧ cImg c pl co / 10 % 10 = pl (co / 10 % 10)) ∨ (cImg c pl co / 100 = pl (co / 10 % 10) ∧ cImg c pl co / 10 % 10 = pl (co / 100)) := by
  have hr := cCodeOk_rg hw h
  have h3 := hw.2.2.1
  have p1 := hpl (co / 100) (by omega) hr.2.1
  have p2 := hpl (co / 10 % 10) (by omega) hr.2.2.1
  unfold cImg
  generalize pl (co / 100) = x at *
  generalize pl (co / 10 % 10) = y at *
  split
  · right; omega
  · left; omega
/-- closed under lines -/
def clo (h : Nat) (co : Int → Int) (φ : Int → Bool) : Prop := ∀ k : Int, 0 ≤ k → k < h → φ (co k / 100) = φ (co k / 10 % 10)
theorem clo_im {c co co' π : Int → Int} {h : Nat} {φ : Int → Bool} (hw : wfC c) (ho : ∀ i : Int, 0 ≤ i → i < h → cCodeOk c (co i) = true) (hπ : gPA c π) (hp : pm co' (fun k => cImg c π (co k)) h) (hc : clo h co' φ) : clo h co (fun x => φ (π x)) := by
  intro k k0 k1
  have h1 : φ (cImg c π (co k) / 100) = φ (cImg c π (co k) / 10 % 10) := pm_all (P := fun v => φ (v / 100) = φ (v / 10 % 10)) hp hc k k0 k1
  show φ (π (co k / 100)) = φ (π (co k / 10 % 10))
  rcases cImg_end hw (ho k k0 k1) (gPA_rg hw hπ) with e | e
  · rw [e.1, e.2] at h1; exact h1
  · rw [e.1, e.2] at h1; exact h1.symm
theorem gSk_no (co : Int → Int) (x : Nat) : gSk co (-1) (-1) x = false := by unfold gSk; rw [decide_eq_false_iff_not]; omega
theorem clo_of {h : Nat} {co : Int → Int} {S : Nat} (g : gClosed h (gFr co) (gTo co) (gSk co (-1) (-1)) S) : clo h co (fun x => S.testBit x.toNat) := fun k k0 k1 => by
  obtain ⟨n, rfl⟩ := Int.eq_ofNat_of_zero_le k0
  exact g n (by omega) (gSk_no co n)
theorem clo_to {c co : Int → Int} {h : Nat} {φ : Int → Bool} (hw : wfC c) (ho : ∀ i : Int, 0 ≤ i → i < h → cCodeOk c (co i) = true) (g : clo h co φ) : gClosed h (gFr co) (gTo co) (gSk co (-1) (-1)) (zmask (fun p => φ (p : Int)) (c 2).toNat) := fun k hk _ => by
  have hr := cCodeOk_rg hw (ho (k : Int) (by omega) (by omega))
  rw [zmask_bit, zmask_bit]
  unfold gFr gTo
  rw [decide_eq_true (by omega), decide_eq_true (by omega), Bool.true_and, Bool.true_and, Int.toNat_of_nonneg (by omega), Int.toNat_of_nonneg (by omega)]
  exact g (k : Int) (by omega) (by omega)
theorem on_ok {c co : Int → Int} {h : Nat} (hw : wfC c) (ho : ∀ i : Int, 0 ≤ i → i < h → cCodeOk c (co i) = true) : gOn h (gFr co) (gTo co) (tAll c) := ⟨tAll_lt hw, fun k hk => by
  have hr := cCodeOk_rg hw (ho (k : Int) (by omega) (by omega))
  exact ⟨all_bit (by omega) (by omega), all_bit (by omega) (by omega)⟩⟩
theorem all_lt {c : Int → Int} {i : Nat} (h : (tAll c).testBit i = true) : (i : Int) < c 2 := by
  unfold tAll at h
  rw [Nat.testBit_two_pow_sub_one, decide_eq_true_eq] at h
  omega
theorem out_im {c π : Int → Int} (hπ : gPA c π) {x : Int} (x0 : 0 ≤ x) (x1 : x < c 2) (h : c (32 + 9 * x + 1) ≠ 1) : c (32 + 9 * π x + 1) ≠ 1 := by
  rcases (gPA_at hπ x0 x1).2.1 with e | e
  · rw [e]; exact h
  · unfold cAlike at e
    rw [Bool.and_eq_true, decide_eq_true_eq] at e
    exact absurd e.1.1 h
theorem out_bit {c : Int → Int} {v : Nat} : (tOut c).testBit v = true ↔ v < (c 2).toNat ∧ c (32 + 9 * (v : Int) + 1) ≠ 1 := by
  unfold tOut
  rw [zmask_bit, Bool.and_eq_true, decide_eq_true_eq, decide_eq_true_eq]
theorem lk_im {c co co' π : Int → Int} {h : Nat} (hw : wfC c) (ho : ∀ i : Int, 0 ≤ i → i < h → cCodeOk c (co i) = true) (ho' : ∀ i : Int, 0 ≤ i → i < h → cCodeOk c (co' i) = true) (hπ : gPA c π) (hp : pm co' (fun k => cImg c π (co k)) h) (hl : tLost c h co (tAll c) = 0) : tLost c h co' (tAll c) = 0 := by
  have hr := gOn_rg (on_ok hw ho)
  have hr' := gOn_rg (on_ok hw ho')
  have h3 := hw.2.2.1
  refine zset_ext (fun i => ?_)
  rw [Nat.zero_testBit]
  refine Bool.eq_false_iff.mpr (fun hi => ?_)
  unfold tLost at hi
  rw [zmask_bit, Bool.and_eq_true, Bool.and_eq_true, decide_eq_true_eq, decide_eq_true_eq] at hi
  obtain ⟨i8, iW, i0⟩ := hi
  have ic := all_lt iW
  obtain ⟨x, x0, x1, ex⟩ := gPA_on hπ (y := (i : Int)) (by omega) ic
  have R' := gR_is (sk := gSk co' (-1) (-1)) i8 hr'
  have cl := clo_to hw ho (clo_im hw ho hπ hp (clo_of R'.2.2.1))
  have x8 : x.toNat < 8 := by omega
  have R := gR_is (sk := gSk co (-1) (-1)) x8 hr
  have sb := R.2.2.2 _ (by rw [zmask_bit, decide_eq_true (by omega), Bool.true_and, Int.toNat_of_nonneg x0, ex]; exact R'.2.1) cl
  have ez : tR h co (-1) (-1) x.toNat &&& tOut c = 0 := zset_ext (fun v => by
    rw [Nat.zero_testBit]
    refine Bool.eq_false_iff.mpr (fun hv => ?_)
    rw [Nat.testBit_and, Bool.and_eq_true] at hv
    have hs := sb v hv.1
    rw [zmask_bit, Bool.and_eq_true, decide_eq_true_eq] at hs
    have hb := out_bit.mp hv.2
    have hy := gPA_at hπ (x := (v : Int)) (by omega) (by omega)
    have hc : (tR h co' (-1) (-1) i &&& tOut c).testBit (π (v : Int)).toNat = true := by
      rw [Nat.testBit_and, Bool.and_eq_true]
      exact ⟨hs.2, out_bit.mpr ⟨by omega, by rw [Int.toNat_of_nonneg hy.1.1]; exact out_im hπ (by omega) (by omega) hb.2⟩⟩
    rw [i0, Nat.zero_testBit] at hc
    cases hc)
  have hx : (tLost c h co (tAll c)).testBit x.toNat = true := by
    unfold tLost
    rw [zmask_bit, decide_eq_true x8, all_bit x0 (by omega), ez]
    rfl
  rw [hl, Nat.zero_testBit] at hx
  cases hx
theorem mn_ex {R : Nat → Nat} {W : Nat} (hR : gDv R) (hW : W < 256) : ∀ (s q : Nat), q < s → W.testBit q = true → ∃ u, mnB R W u = true ∧ (R u).testBit q = true
  | 0, q, h, _ => absurd h (Nat.not_lt_zero _)
  | s + 1, q, h, hq => by
    by_cases z : mnB R W q = true
    · exact ⟨q, z, (hR.1 q (bit8 hW hq)).2⟩
    · have : ∃ u, u < q ∧ W.testBit u = true ∧ (R u).testBit q = true := by
        apply Classical.byContradiction
        intro hn
        refine z (mnB_iff.mpr ⟨hq, fun u hu hw => ?_⟩)
        cases e : (R u).testBit q with
        | false => rfl
        | true => exact absurd ⟨u, hu, hw, e⟩ hn
      obtain ⟨u, u1, u2, u3⟩ := this
      obtain ⟨v, v1, v2⟩ := mn_ex hR hW s u (by omega) u2
      refine ⟨v, v1, ?_⟩
      rw [← hR.2 u v (bit8 hW (mnB_iff.mp v1).1) v2]
      exact u3
theorem one_iff {c co : Int → Int} {h : Nat} (on : gOn h (gFr co) (gTo co) (tAll c)) : tParts h co (-1) (tAll c) = 1 ↔ ∃ p, (tAll c).testBit p = true ∧ ∀ q, (tAll c).testBit q = true → (tR h co (-1) (-1) p).testBit q = true := by
  have hs := tParts_sum (wl := -1) on
  have hR : gDv (tR h co (-1) (-1)) := gR_dv (gOn_rg on)
  have f0 : ∀ v : Int, 0 ≤ zb (mnB (tR h co (-1) (-1)) (tAll c) v.toNat = true) := fun v => by have := zb01 (mnB (tR h co (-1) (-1)) (tAll c) v.toNat = true); omega
  constructor
  · intro e
    rw [e] at hs
    have hp : ∃ p, p < 8 ∧ mnB (tR h co (-1) (-1)) (tAll c) p = true := by
      apply Classical.byContradiction
      intro hn
      rw [zsum_z (fun i i0 i1 => zb_f (fun g => hn ⟨i.toNat, by omega, g⟩))] at hs
      omega
    obtain ⟨p, p8, hp⟩ := hp
    refine ⟨p, (mnB_iff.mp hp).1, fun q hq => ?_⟩
    obtain ⟨u, u1, u2⟩ := mn_ex hR on.1 (q + 1) q (by omega) hq
    by_cases eu : u = p
    · rw [← eu]; exact u2
    · have u8 := bit8 on.1 (mnB_iff.mp u1).1
      have l := zsum_le (f := fun v => zb (v = (p : Int)) + zb (v = (u : Int))) (g := fun v => zb (mnB (tR h co (-1) (-1)) (tAll c) v.toNat = true)) (j := 8) (k := 0) (fun v v0 v1 => by
        have h0 := f0 v
        try dsimp only
        by_cases a : v = (p : Int)
        · rw [zb_t a, zb_f (show ¬ v = (u : Int) by omega), zb_t (show mnB (tR h co (-1) (-1)) (tAll c) v.toNat = true by rw [a, Int.toNat_natCast]; exact hp)]
          decide
        · by_cases b : v = (u : Int)
          · rw [zb_f a, zb_t b, zb_t (show mnB (tR h co (-1) (-1)) (tAll c) v.toNat = true by rw [b, Int.toNat_natCast]; exact u1)]
            decide
          · rw [zb_f a, zb_f b]
            omega)
      rw [zsum_add, zsum_ind (by omega) (by omega), zsum_ind (by omega) (by omega)] at l
      omega
  · rintro ⟨p, p1, p2⟩
    obtain ⟨u, u1, u2⟩ := mn_ex hR on.1 (p + 1) p (by omega) p1
    have uu := mnB_iff.mp u1
    have u8 := bit8 on.1 uu.1
    have e := hR.2 p u u8 u2
    have hz : zsum (fun v => zb (mnB (tR h co (-1) (-1)) (tAll c) v.toNat = true)) 8 0 = zsum (fun v => zb (v = (u : Int))) 8 0 := zsum_congr (fun v v0 v1 => zb_congr (by
      constructor
      · intro hv
        have vv := mnB_iff.mp hv
        have hq := p2 v.toNat vv.1
        rw [e] at hq
        rcases Nat.lt_trichotomy u v.toNat with z | z | z
        · have := vv.2 u z uu.1
          rw [hq] at this
          cases this
        · omega
        · have := uu.2 v.toNat z vv.1
          rw [gDv_sym hR u8 hq] at this
          cases this
      · intro hv
        rw [hv, Int.toNat_natCast]
        exact u1))
    rw [hz, zsum_ind (by omega) (by omega)] at hs
    omega
theorem pt_im {c co co' π : Int → Int} {h : Nat} (hw : wfC c) (ho : ∀ i : Int, 0 ≤ i → i < h → cCodeOk c (co i) = true) (ho' : ∀ i : Int, 0 ≤ i → i < h → cCodeOk c (co' i) = true) (hπ : gPA c π) (hp : pm co' (fun k => cImg c π (co k)) h) (hl : tParts h co (-1) (tAll c) = 1) : tParts h co' (-1) (tAll c) = 1 := by
  have hr := gOn_rg (on_ok hw ho)
  have hr' := gOn_rg (on_ok hw ho')
  have h3 := hw.2.2.1
  obtain ⟨p, p1, p2⟩ := (one_iff (on_ok hw ho)).mp hl
  have pc := all_lt p1
  have hy := gPA_at hπ (x := (p : Int)) (by omega) pc
  have y8 : (π (p : Int)).toNat < 8 := by omega
  have R' := gR_is (sk := gSk co' (-1) (-1)) y8 hr'
  have cl := clo_to hw ho (clo_im hw ho hπ hp (clo_of R'.2.2.1))
  have R := gR_is (sk := gSk co (-1) (-1)) (show p < 8 by omega) hr
  have sb := R.2.2.2 _ (by rw [zmask_bit, decide_eq_true (by omega), Bool.true_and]; exact R'.2.1) cl
  refine (one_iff (on_ok hw ho')).mpr ⟨(π (p : Int)).toNat, all_bit hy.1.1 (by omega), fun q hq => ?_⟩
  obtain ⟨x, x0, x1, ex⟩ := gPA_on hπ (y := (q : Int)) (by omega) (all_lt hq)
  have hx := sb x.toNat (p2 x.toNat (all_bit x0 (by omega)))
  rw [zmask_bit, Bool.and_eq_true, Int.toNat_of_nonneg x0, ex, Int.toNat_natCast] at hx
  exact hx.2
theorem im_sy {c co co' π : Int → Int} {h : Nat} (hw : wfC c) (ho : ∀ i : Int, 0 ≤ i → i < h → cCodeOk c (co i) = true) (hπ : gPA c π) (hp : pm co' (fun k => cImg c π (co k)) h) : ∃ σ, gPA c σ ∧ pm co (fun k => cImg c σ (co' k)) h := by
  obtain ⟨σ, s1, s2⟩ := gPA_iv hπ
  refine ⟨σ, s1, pm_sy (pm_tr (pm_map (cImg c σ) hp) (pm_eq (fun i i0 i1 => ?_)))⟩
  have hk := ho i i0 i1
  have hr := cCodeOk_rg hw hk
  show cImg c σ (cImg c π (co i)) = co i
  rw [cImg_co hw hk (gPA_rg hw hπ) (gPA_rg hw s1), cImg_congr (pl' := fun x => x) (s2 _ (by omega) (by omega)) (s2 _ (by omega) (by omega)), cImg_id hk]
theorem im_nm {T : zT} (hw : wfC T.1) (hl : wfL T.1 T.2.1 T.2.2.1 T.2.2.2) {r : Int → Int} (h : sFull T.2.2.2.toNat (cMay T.1 T.2.1 T.2.2.1) r) : (∃ π, gPA T.1 π ∧ pm (uF (tName T r) (tH T)) (fun k => cImg T.1 π (rowF T r k)) (tH T)) ∧ ∀ i : Int, 0 ≤ i → i < (tH T : Int) → cCodeOk T.1 (uF (tName T r) (tH T) i) = true := by
  obtain ⟨g, g1, g2, g3⟩ := row_g hw hl h
  have en : tName T r = sNM T.1 (tH T) (sPk g (tH T)) := by rw [← g1]; rfl
  obtain ⟨⟨pl, q1, q2⟩, -⟩ := sNM_is hw g2
  obtain ⟨g', e1, e2, e3⟩ := sV_row2 hw g2 q1
  have eu : ∀ i : Int, 0 ≤ i → i < (tH T : Int) → uF (tName T r) (tH T) i = g' i := fun i i0 i1 => by rw [en, q2, e1]; exact uF_eq (cRow_rg hw e2) i0 i1
  exact ⟨⟨pl, q1, pm_tr (pm_eq eu) (pm_tr e3 (pm_map (cImg T.1 pl) g3))⟩, fun i i0 i1 => by rw [eu i i0 i1]; exact e2.1 i i0 i1⟩
theorem same_lk {T : zT} (hw : wfC T.1) (hl : wfL T.1 T.2.1 T.2.2.1 T.2.2.2) {r : Int → Int} (h : sFull T.2.2.2.toNat (cMay T.1 T.2.1 T.2.2.1) r) : (tLost T.1 (tH T) (uF (tName T r) (tH T)) (tAll T.1) = 0 ↔ tLost T.1 (tH T) (rowF T r) (tAll T.1) = 0) ∧ (tParts (tH T) (uF (tName T r) (tH T)) (-1) (tAll T.1) = 1 ↔ tParts (tH T) (rowF T r) (-1) (tAll T.1) = 1) := by
  obtain ⟨⟨π, p1, p2⟩, ho'⟩ := im_nm hw hl h
  have ho : ∀ i : Int, 0 ≤ i → i < (tH T : Int) → cCodeOk T.1 (rowF T r i) = true := fun i i0 i1 => lf_ok hw hl h i0 i1
  obtain ⟨σ, s1, s2⟩ := im_sy hw ho p1 p2
  exact ⟨⟨fun e => lk_im hw ho' ho s1 s2 e, fun e => lk_im hw ho ho' p1 p2 e⟩, ⟨fun e => pt_im hw ho' ho s1 s2 e, fun e => pt_im hw ho ho' p1 p2 e⟩⟩
theorem sw_sum {α : Type} (F : Int → α → Int) (n : Nat) : ∀ L : List α, zsum (fun d => lS (F d) L) n 0 = lS (fun r => zsum (fun d => F d r) n 0) L
  | [] => zsum_z (fun _ _ _ => rfl)
  | x :: L => by
    show zsum (fun d => F d x + lS (F d) L) n 0 = zsum (fun d => F d x) n 0 + lS (fun r => zsum (fun d => F d r) n 0) L
    rw [zsum_add, sw_sum F n L]
theorem zsum_at {n : Nat} {x : Int} (x0 : 0 ≤ x) (x1 : x < n) (G : Int → Bool) : zsum (fun d => if G d = true then zb (d = x) else 0) n 0 = zb (G x = true) := by
  rw [zsum_congr (g := fun d => if G x = true then zb (d = x) else 0) (fun d d0 d1 => by
    by_cases e : d = x
    · rw [e]
    · rw [zb_f e]; split <;> split <;> rfl)]
  by_cases g : G x = true
  · rw [zb_t g, zsum_congr (g := fun d => zb (d = x)) (fun d _ _ => if_pos g), zsum_ind (by omega) (by omega)]
  · rw [zb_f g, zsum_z (fun d _ _ => if_neg g)]
theorem many_is {m : zM} {E : zE} {T : zT} {X : Int → Int} {t s a cap a2 cap2 ka kcap b bcap : Int} (hJ : cJ m E T X t s a cap a2 cap2 ka kcap b bcap) (h9 : m 14 19 = 1) : tMany T 0 0 = tS T (fun r => zb (tLost T.1 (tH T) (rowF T r) (tAll T.1) = 0)) ∧ tMany T 1 0 = tS T (fun r => zb (tParts (tH T) (rowF T r) (-1) (tAll T.1) = 1)) := by
  have hP := hJ.2.2.2.2.2.2.2.2.1
  have key : ∀ (con : Int), tMany T con 0 = tS T (fun r => zb (tGd T con (tIx T (tName T r)) = true)) := fun con => by
    unfold tMany tS
    have e : ∀ dd : Int, (if tGd T con dd = true then (if (0 : Int) = 0 then tCnt T dd else 1) else 0) = lS (fun mt => if tGd T con dd = true then zb (tName T mt = tNm T dd) else 0) (tPairs T) := fun dd => by
      by_cases g : tGd T con dd = true
      · rw [if_pos g, if_pos rfl]
        unfold tCnt tS
        exact lS_mem (fun r _ => (if_pos g).symm)
      · rw [if_neg g, lS_0 (fun r _ => if_neg g)]
    rw [zsum_congr (fun dd _ _ => e dd), sw_sum (fun dd mt => if tGd T con dd = true then zb (tName T mt = tNm T dd) else 0)]
    refine lS_mem (fun r hr => ?_)
    obtain ⟨k, hk⟩ := List.mem_iff_getElem?.mp hr
    have ek := mt_of hk
    have kl : (k : Int) < lT T := by have := (List.getElem?_eq_some_iff.mp hk).1; unfold lT; omega
    obtain ⟨⟨D, F, cc, z1, z2, z3⟩, z4⟩ := hJ.2.2.2.2.2.1.2.2.2.2.2.2 h9
    have ed := (dG_ord z1.1).1
    obtain ⟨i, hi, hD⟩ := z1.1.2.2.1 k _ hk
    obtain ⟨x, x1, x2, x3, x4, x5⟩ := dG_rk z1.1 hD
    rw [x5, ← zsum_at (n := (tD T).length) (x := (x : Int)) (by omega) (by omega) (tGd T con)]
    refine zsum_congr (fun dd d0 d1 => ?_)
    have hx := ix_iff hJ h9 d0 (show dd < ((tD T).length : Int) by omega) (show (0 : Int) ≤ (k : Int) by omega) kl
    rw [ek, x5] at hx
    rw [zb_congr (show tName T r = tNm T dd ↔ dd = (x : Int) from ⟨fun g => (hx.mpr g).symm, fun g => hx.mp g.symm⟩)]
  have hc : ∀ r ∈ tPairs T, tCo T (tIx T (tName T r)) = uF (tName T r) (tH T) := fun r hr => by
    obtain ⟨k, hk⟩ := List.mem_iff_getElem?.mp hr
    obtain ⟨⟨D, F, cc, z1, z2, z3⟩, z4⟩ := hJ.2.2.2.2.2.1.2.2.2.2.2.2 h9
    obtain ⟨i, hi, hD⟩ := z1.1.2.2.1 k _ hk
    obtain ⟨x, x1, x2, x3, x4, x5⟩ := dG_rk z1.1 hD
    unfold tCo
    rw [x5, x4]
  have hf : ∀ r ∈ tPairs T, sFull T.2.2.2.toNat (cMay T.1 T.2.1 T.2.2.1) r := fun r hr => tP_full (tA_n hP) hr
  constructor
  · rw [key]
    refine lS_mem (fun r hr => zb_congr ?_)
    unfold tGd
    rw [decide_eq_true_eq, if_pos rfl, hc r hr]
    exact (same_lk (tA_w hP) (tA_l hP) (hf r hr)).1
  · rw [key]
    refine lS_mem (fun r hr => zb_congr ?_)
    unfold tGd
    rw [decide_eq_true_eq, if_neg (by decide), hc r hr]
    exact (same_lk (tA_w hP) (tA_l hP) (hf r hr)).2
/-- sums over all points -/
theorem let_all {T : zT} {X : Int → Int} (h : tA T X) : tLet T (tAll T.1) = fA (nT T) := zset_ext (fun i => by
  unfold tLet
  rw [zmask_bit, fA_bit]
  by_cases e : i < T.2.2.2.toNat
  · have hq := ((tA_l h).2 (i : Int) (by omega) (by omega)).2
    rw [decide_eq_true e, all_bit hq.1 (by omega)]
    rfl
  · rw [decide_eq_false e, Bool.false_and])
theorem sub_cg {T : zT} {pts : Nat} {w : Int} {r s : Int → Int} (h : agF (nT T) r s) : tSub T pts w r = tSub T pts w s := by
  unfold tSub tSign sSign
  rw [sCL_cg h, turn_cg h]
theorem subs_all {T : zT} {X : Int → Int} (h : tA T X) (w : Int) : tSubs T (tAll T.1) w = tS T (tSub T (tAll T.1) w) := by
  unfold tSubs tS
  rw [let_all h]
  exact agL_lS (fun r s e => sub_cg (fun x x0 x1 => by rw [sMk_fA (tA_n h) r x x0 x1]; exact e x x0 x1)) (tab_ag (tA_n h))
theorem sub_row {T : zT} {X : Int → Int} (h : tA T X) {r : Int → Int} (hr : r ∈ tPairs T) {pts : Nat} : tSub T pts 2 r = zb (tLost T.1 (tH T) (rowF T r) pts = 0) ∧ tSub T pts 3 r = zb (tParts (tH T) (rowF T r) (-1) pts = 1) := by
  have hf := tP_full (tA_n h) hr
  have hl := sCL_h hf
  have e : (sCL T.2.2.2.toNat (cCode T.1 T.2.1 T.2.2.1) r T.2.2.2.toNat 0).length = tH T := by
    have := (tA_l h).1
    unfold tH
    omega
  unfold tSub
  rw [if_neg (by decide), if_neg (by decide), if_pos rfl, if_neg (by decide), if_neg (by decide), if_neg (by decide), e]
  exact ⟨rfl, rfl⟩
