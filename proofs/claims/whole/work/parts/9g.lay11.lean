/-! parts, and lines that alone hold -/
theorem gR_is {L : Nat} {fr to' : Nat → Nat} {sk : Nat → Bool} {p : Nat} (hp : p < 8) (hr : ∀ k, k < L → fr k < 8 ∧ to' k < 8) : gReach L fr to' sk p (gR L fr to' sk p) := by
  have he : ∃ S, gReach L fr to' sk p S := by
    refine ⟨zmask (fun v => @decide (∀ T, T.testBit p = true → gClosed L fr to' sk T → T.testBit v = true) (Classical.propDecidable _)) 8, ?_⟩
    have hb : ∀ v, (zmask (fun v => @decide (∀ T, T.testBit p = true → gClosed L fr to' sk T → T.testBit v = true) (Classical.propDecidable _)) 8).testBit v = true ↔ v < 8 ∧ ∀ T, T.testBit p = true → gClosed L fr to' sk T → T.testBit v = true := fun v => by
      rw [zmask_bit, Bool.and_eq_true, decide_eq_true_eq, @decide_eq_true_eq _ (Classical.propDecidable _)]
    refine ⟨zmask_lt _ 8, (hb p).mpr ⟨hp, fun T t1 _ => t1⟩, fun k hk hs => Bool.eq_iff_iff.mpr ?_, fun T t1 t2 v hv => ((hb v).mp hv).2 T t1 t2⟩
    rw [hb, hb]
    constructor
    · rintro ⟨_, h⟩; exact ⟨(hr k hk).2, fun T t1 t2 => by rw [← t2 k hk hs]; exact h T t1 t2⟩
    · rintro ⟨_, h⟩; exact ⟨(hr k hk).1, fun T t1 t2 => by rw [t2 k hk hs]; exact h T t1 t2⟩
  obtain ⟨S, hS⟩ := he
  rw [gR_eq hS]
  exact hS
/-- a division of points -/
def gDv (R : Nat → Nat) : Prop := (∀ v, v < 8 → R v < 256 ∧ (R v).testBit v = true) ∧ ∀ u v, v < 8 → (R v).testBit u = true → R u = R v
theorem gR_dv {L : Nat} {fr to' : Nat → Nat} {sk : Nat → Bool} (hr : ∀ k, k < L → fr k < 8 ∧ to' k < 8) : gDv (gR L fr to' sk) := by
  refine ⟨fun v hv => ⟨(gR_is hv hr).1, (gR_is hv hr).2.1⟩, fun u v hv hu => ?_⟩
  have h1 := gR_is (sk := sk) hv hr
  have hu8 := bit8 h1.1 hu
  have h2 := gR_is (sk := sk) hu8 hr
  have s1 : gSub (gR L fr to' sk u) (gR L fr to' sk v) := h2.2.2.2 _ hu h1.2.2.1
  have hvu : (gR L fr to' sk u).testBit v = true := by
    cases e : (gR L fr to' sk u).testBit v with
    | true => rfl
    | false =>
      have := h1.2.2.2 (gR L fr to' sk v ^^^ (gR L fr to' sk v &&& gR L fr to' sk u)) (by rw [andn_bit, h1.2.1, e]; rfl) (fun k hk hs => by rw [andn_bit, andn_bit, h1.2.2.1 k hk hs, h2.2.2.1 k hk hs]) u hu
      rw [andn_bit, h2.2.1] at this
      simp at this
  have s2 : gSub (gR L fr to' sk v) (gR L fr to' sk u) := h1.2.2.2 _ hvu h2.2.2.1
  refine zset_ext (fun i => ?_)
  have a := s1 i
  have b := s2 i
  cases e1 : (gR L fr to' sk u).testBit i <;> cases e2 : (gR L fr to' sk v).testBit i <;> simp_all
theorem gDv_sym {R : Nat → Nat} (h : gDv R) {u v : Nat} (hv : v < 8) (hu : (R v).testBit u = true) : (R u).testBit v = true := by
  rw [h.2 u v hv hu]; exact (h.1 v hv).2
/-- the first of its part -/
def mnB (R : Nat → Nat) (W v : Nat) : Bool := W.testBit v && (List.range v).all (fun u => !(W.testBit u && (R u).testBit v))
theorem mnB_iff {R : Nat → Nat} {W v : Nat} : mnB R W v = true ↔ W.testBit v = true ∧ ∀ u, u < v → W.testBit u = true → (R u).testBit v = false := by
  unfold mnB
  rw [Bool.and_eq_true, List.all_eq_true]
  constructor
  · rintro ⟨h1, h2⟩
    refine ⟨h1, fun u hu hw => ?_⟩
    have := h2 u (List.mem_range.mpr hu)
    rw [hw] at this
    simpa using this
  · rintro ⟨h1, h2⟩
    refine ⟨h1, fun u hu => ?_⟩
    have hu := List.mem_range.mp hu
    cases e : W.testBit u with
    | false => rfl
    | true => rw [h2 u hu e]; rfl
theorem sParts_sum {R : Nat → Nat} {W : Nat} (hR : gDv R) (hW : W < 256) : ∀ (s p left : Nat), p + s = 8 → (∀ v, left.testBit v = true ↔ W.testBit v = true ∧ ∀ u, u < p → W.testBit u = true → (R u).testBit v = false) → ((sParts R s p left : Nat) : Int) = zsum (fun v => zb (mnB R W v.toNat = true)) s p
  | 0, p, left, _, _ => rfl
  | s + 1, p, left, hs, hl => by
    rw [zsum_s, Int.toNat_natCast, show (p : Int) + 1 = ((p + 1 : Nat) : Int) by omega]
    have hm : mnB R W p = true ↔ left.testBit p = true := by rw [mnB_iff, hl]
    by_cases e : left.testBit p = true
    · rw [sParts_t e, zb_t (hm.mpr e), ← sParts_sum hR hW s (p + 1) (left ^^^ (left &&& R p)) (by omega) (fun v => ?_)]
      · omega
      · rw [andn_bit, Bool.and_eq_true, hl]
        constructor
        · rintro ⟨⟨h1, h2⟩, h3⟩
          refine ⟨h1, fun u hu hw => ?_⟩
          by_cases q : u = p
          · rw [q]; simpa using h3
          · exact h2 u (by omega) hw
        · rintro ⟨h1, h2⟩
          refine ⟨⟨h1, fun u hu hw => h2 u (by omega) hw⟩, ?_⟩
          rw [h2 p (by omega) ((hl p).mp e).1]; rfl
    · rw [sParts_f (by simpa using e), zb_f (fun h => e (hm.mp h)), Int.zero_add, ← sParts_sum hR hW s (p + 1) left (by omega) (fun v => ?_)]
      rw [hl]
      constructor
      · rintro ⟨h1, h2⟩
        refine ⟨h1, fun u hu hw => ?_⟩
        by_cases q : u = p
        · subst q
          have hn : ¬ ∀ x, x < u → W.testBit x = true → (R x).testBit u = false := fun h => e ((hl u).mpr ⟨hw, h⟩)
          obtain ⟨x, hx⟩ := Classical.not_forall.mp hn
          have hx1 : x < u := Classical.byContradiction (fun h => hx (fun h' => absurd h' h))
          have hx2 : W.testBit x = true := Classical.byContradiction (fun h => hx (fun _ h' => absurd h' h))
          have hx3 : (R x).testBit u = true := by
            cases q : (R x).testBit u with
            | true => rfl
            | false => exact absurd (fun _ _ => q) hx
          rw [hR.2 u x (bit8 hW hx2) hx3]
          exact h2 x hx1 hx2
        · exact h2 u (by omega) hw
      · rintro ⟨h1, h2⟩
        exact ⟨h1, fun u hu hw => h2 u (by omega) hw⟩
theorem least_ex {S : Nat} : ∀ v, S.testBit v = true → ∃ x, x ≤ v ∧ S.testBit x = true ∧ ∀ u, u < x → S.testBit u = false := by
  intro v
  induction v using Nat.strongRecOn with
  | ind v ih =>
    intro hv
    by_cases h : ∃ u, u < v ∧ S.testBit u = true
    · obtain ⟨u, hu, hs⟩ := h
      obtain ⟨x, x1, x2, x3⟩ := ih u hu hs
      exact ⟨x, by omega, x2, x3⟩
    · exact ⟨v, Nat.le_refl _, hv, fun u hu => by
        cases e : S.testBit u with
        | false => rfl
        | true => exact absurd ⟨u, hu, e⟩ h⟩
/-- first of its part: no less one in it -/
theorem mnB_dv {R : Nat → Nat} {W v : Nat} (hR : gDv R) (hW : W < 256) (hc : ∀ u v, W.testBit v = true → (R v).testBit u = true → W.testBit u = true) (hv : W.testBit v = true) : mnB R W v = true ↔ ∀ u, u < v → (R v).testBit u = false := by
  rw [mnB_iff]
  constructor
  · rintro ⟨_, h⟩ u hu
    cases e : (R v).testBit u with
    | false => rfl
    | true =>
      have := h u hu (hc u v hv e)
      rw [gDv_sym hR (bit8 hW hv) e] at this
      cases this
  · intro h
    refine ⟨hv, fun u hu hw => ?_⟩
    cases e : (R u).testBit v with
    | false => rfl
    | true =>
      have := h u hu
      rw [gDv_sym hR (bit8 hW hw) e] at this
      cases this
theorem parts_cut {R R' : Nat → Nat} {W a b : Nat} (hR : gDv R) (hR' : gDv R') (hW : W < 256) (hc : ∀ u v, W.testBit v = true → (R v).testBit u = true → W.testBit u = true) (ha : W.testBit a = true) (hb : (R a).testBit b = true) (h1 : ∀ v, v < 8 → gSub (R' v) (R v)) (h2 : ∀ v, v < 8 → (R a).testBit v = false → R v = R' v) (h3 : ∀ v, (R a).testBit v = true → (R' a).testBit v = true ∨ (R' b).testBit v = true) (hne : (R' a).testBit b = false) : zsum (fun v => zb (mnB R' W v.toNat = true)) 8 0 = zsum (fun v => zb (mnB R W v.toNat = true)) 8 0 + 1 := by
  have hb8 := bit8 (hR.1 a (bit8 hW ha)).1 hb
  have ha8 := bit8 hW ha
  have hWb := hc b a ha hb
  have hc' : ∀ u v, W.testBit v = true → (R' v).testBit u = true → W.testBit u = true := fun u v hv hu => hc u v hv (h1 v (bit8 hW hv) u hu)
  obtain ⟨x, -, x1, x2⟩ := least_ex a (hR'.1 a ha8).2
  obtain ⟨y, -, y1, y2⟩ := least_ex b (hR'.1 b hb8).2
  have hx8 := bit8 (hR'.1 a ha8).1 x1
  have hy8 := bit8 (hR'.1 b hb8).1 y1
  have hdis : ∀ v, (R' a).testBit v = true → (R' b).testBit v = true → False := fun v q1 q2 => by
    have e1 := hR'.2 v a ha8 q1
    have e2 := hR'.2 v b hb8 q2
    have := (hR'.1 b hb8).2
    rw [← e2, e1, hne] at this
    cases this
  have hxy : x ≠ y := fun h => hdis x x1 (h ▸ y1)
  have hsub := h1 a ha8
  have hsubb : gSub (R' b) (R a) := fun v hv => by have := h1 b hb8 v hv; rw [hR.2 b a ha8 hb] at this; exact this
  -- who is first
  have key : ∀ v, v < 8 → zb (mnB R' W v = true) = zb (mnB R W v = true) + zb (v = (if x < y then y else x)) := by
    intro v hv8
    by_cases hvW : W.testBit v = true
    · by_cases hva : (R a).testBit v = true
      · have eR : R v = R a := hR.2 v a ha8 hva
        rcases h3 v hva with q | q
        · have eR' : R' v = R' a := hR'.2 v a ha8 q
          have f' : mnB R' W v = true ↔ v = x := by
            rw [mnB_dv hR' hW hc' hvW, eR']
            constructor
            · intro h
              rcases Nat.lt_trichotomy v x with w | w | w
              · rw [x2 v w] at q; cases q
              · exact w
              · rw [h x w] at x1; cases x1
            · intro h; rw [h]; exact x2
          have f : mnB R W v = true ↔ v = x ∧ x < y := by
            rw [mnB_dv hR hW hc hvW, eR]
            constructor
            · intro h
              have e : v = x := by
                rcases Nat.lt_trichotomy v x with w | w | w
                · rw [x2 v w] at q; cases q
                · exact w
                · have := hsub x x1; rw [h x w] at this; cases this
              refine ⟨e, ?_⟩
              rcases Nat.lt_trichotomy x y with w | w | w
              · exact w
              · exact absurd w hxy
              · have := hsubb y y1; rw [h y (by omega)] at this; cases this
            · rintro ⟨e, hlt⟩ u hu
              cases q2 : (R a).testBit u with
              | false => rfl
              | true =>
                rcases h3 u q2 with w | w
                · rw [x2 u (by omega)] at w; cases w
                · rw [y2 u (by omega)] at w; cases w
          have hvy : v ≠ y := fun h => hdis v q (h ▸ y1)
          by_cases e : v = x
          · by_cases l : x < y
            · rw [zb_t (f'.mpr e), zb_t (f.mpr ⟨e, l⟩), if_pos l, zb_f hvy]; rfl
            · rw [zb_t (f'.mpr e), zb_f (fun h => l (f.mp h).2), if_neg l, zb_t e]; rfl
          · rw [zb_f (fun h => e (f'.mp h)), zb_f (fun h => e (f.mp h).1), zb_f (by split; exact hvy; exact e)]; rfl
        · have eR' : R' v = R' b := hR'.2 v b hb8 q
          have f' : mnB R' W v = true ↔ v = y := by
            rw [mnB_dv hR' hW hc' hvW, eR']
            constructor
            · intro h
              rcases Nat.lt_trichotomy v y with w | w | w
              · rw [y2 v w] at q; cases q
              · exact w
              · rw [h y w] at y1; cases y1
            · intro h; rw [h]; exact y2
          have f : mnB R W v = true ↔ v = y ∧ ¬ x < y := by
            rw [mnB_dv hR hW hc hvW, eR]
            constructor
            · intro h
              have e : v = y := by
                rcases Nat.lt_trichotomy v y with w | w | w
                · rw [y2 v w] at q; cases q
                · exact w
                · have := hsubb y y1; rw [h y w] at this; cases this
              refine ⟨e, fun w => ?_⟩
              have := hsub x x1; rw [h x (by omega)] at this; cases this
            · rintro ⟨e, hlt⟩ u hu
              cases q2 : (R a).testBit u with
              | false => rfl
              | true =>
                rcases h3 u q2 with w | w
                · rw [x2 u (by omega)] at w; cases w
                · rw [y2 u (by omega)] at w; cases w
          have hvx : v ≠ x := fun h => hdis v (h ▸ x1) q
          by_cases e : v = y
          · by_cases l : x < y
            · rw [zb_t (f'.mpr e), zb_f (fun h => (f.mp h).2 l), if_pos l, zb_t e]; rfl
            · rw [zb_t (f'.mpr e), zb_t (f.mpr ⟨e, l⟩), if_neg l, zb_f hvx]; rfl
          · rw [zb_f (fun h => e (f'.mp h)), zb_f (fun h => e (f.mp h).1), zb_f (by split; exact e; exact hvx)]; rfl
      · have hva : (R a).testBit v = false := by simpa using hva
        have eR := h2 v hv8 hva
        have f : mnB R' W v = true ↔ mnB R W v = true := by rw [mnB_dv hR' hW hc' hvW, mnB_dv hR hW hc hvW, eR]
        have hw : ¬ v = (if x < y then y else x) := fun h => by
          have : (R a).testBit v = true := by rw [h]; split; exact hsubb y y1; exact hsub x x1
          rw [hva] at this; cases this
        rw [zb_f hw, Int.add_zero]
        by_cases q : mnB R W v = true
        · rw [zb_t q, zb_t (f.mpr q)]
        · rw [zb_f q, zb_f (fun h => q (f.mp h))]
    · have n1 : ¬ mnB R' W v = true := fun h => hvW (mnB_iff.mp h).1
      have n2 : ¬ mnB R W v = true := fun h => hvW (mnB_iff.mp h).1
      have hw : ¬ v = (if x < y then y else x) := fun h => hvW (by rw [h]; split; exact hc' y b hWb y1; exact hc' x a ha x1)
      rw [zb_f n1, zb_f n2, zb_f hw]; rfl
  have hi := zsum_ind (x := (((if x < y then y else x : Nat)) : Int)) (j := 8) (k := 0) (by omega) (by split <;> omega)
  have e : zsum (fun v => zb (mnB R' W v.toNat = true) - zb (mnB R W v.toNat = true)) 8 0 = zsum (fun i => zb (i = (((if x < y then y else x : Nat)) : Int))) 8 0 := zsum_congr (fun i q0 q1 => by
    rw [key i.toNat (by omega)]
    have : zb (i.toNat = (if x < y then y else x)) = zb (i = (((if x < y then y else x : Nat)) : Int)) := by
      by_cases q : i.toNat = (if x < y then y else x)
      · rw [zb_t q, zb_t (by omega)]
      · rw [zb_f q, zb_f (by omega)]
    omega)
  rw [zsum_sub, hi] at e
  omega
