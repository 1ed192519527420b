/-! parts and bridges: class and model alike -/
theorem gRe_sk {L : Nat} {fr to' : Nat → Nat} {sk : Nat → Bool} {N : Nat → Nat} {x S V : Nat} (hV : V < 256) (hx : V.testBit x = true) (hin : ∀ k, k < L → V.testBit (fr k) = true ∧ V.testBit (to' k) = true) (hN : ∀ u q, u < 8 → ((N u).testBit q = true ↔ ∃ k, k < L ∧ sk k = false ∧ ((fr k = u ∧ to' k = q) ∨ (to' k = u ∧ fr k = q)))) (h : gRe N V (2 ^ x) S) : gReach L fr to' sk x S := by
  obtain ⟨h1, h2, h3, h4, h5⟩ := h
  have hxS : S.testBit x = true := h2 x (by rw [Nat.testBit_and, hx, Nat.testBit_two_pow_self]; rfl)
  refine ⟨h1, hxS, fun k hk hs => ?_, fun T t1 t2 v hv => ?_⟩
  · obtain ⟨a1, a2⟩ := hin k hk
    have l1 : S.testBit (fr k) = true → S.testBit (to' k) = true := fun h => h4 (fr k) (to' k) (bit8 hV a1) h ((hN _ _ (bit8 hV a1)).mpr ⟨k, hk, hs, Or.inl ⟨rfl, rfl⟩⟩) a2
    have l2 : S.testBit (to' k) = true → S.testBit (fr k) = true := fun h => h4 (to' k) (fr k) (bit8 hV a2) h ((hN _ _ (bit8 hV a2)).mpr ⟨k, hk, hs, Or.inr ⟨rfl, rfl⟩⟩) a1
    cases e1 : S.testBit (fr k) <;> cases e2 : S.testBit (to' k) <;> simp_all
  · refine h5 T (fun y hy => ?_) (fun u q q0 q1 q2 q3 => ?_) v hv
    · rw [Nat.testBit_and, Bool.and_eq_true, Nat.testBit_two_pow, decide_eq_true_eq] at hy
      rw [← hy.1]; exact t1
    · obtain ⟨k, k1, k2, k3⟩ := (hN u q q0).mp q2
      rcases k3 with ⟨e1, e2⟩ | ⟨e1, e2⟩
      · have := t2 k k1 k2
        rw [e1, e2, q1] at this; exact this.symm
      · have := t2 k k1 k2
        rw [e1, e2, q1] at this; exact this
theorem cPs_0 (N : Nat → Nat) (W : Nat) : ∀ k, cPs N W k 0 = 0
  | 0 => rfl
  | _ + 1 => if_pos rfl
theorem cPs_sParts {R N : Nat → Nat} {W : Nat} (hRN : ∀ x, W.testBit x = true → gRs N W (2 ^ x) = R x) (hself : ∀ x, W.testBit x = true → (R x).testBit x = true) : ∀ (s p k left : Nat), p + s = 8 → s ≤ k → left < 256 → (∀ v, left.testBit v = true → W.testBit v = true ∧ p ≤ v) → cPs N W k left = sParts R s p left
  | 0, p, k, left, hp, _, hl, hb => by
    have : left = 0 := zset_ext (fun i => by
      rw [Nat.zero_testBit]
      cases e : left.testBit i with
      | false => rfl
      | true => have := (hb i e).2; have := bit8 hl e; omega)
    rw [this, cPs_0]; rfl
  | s + 1, p, k, left, hp, hk, hl, hb => by
    by_cases e : left.testBit p = true
    · obtain ⟨k, rfl⟩ : ∃ k', k = k' + 1 := ⟨k - 1, by omega⟩
      have hne : left ≠ 0 := fun h => by rw [h, Nat.zero_testBit] at e; cases e
      have hz : zfst (fun x => left.testBit x.toNat) 8 0 = (p : Int) := zfst_at (fun i hi => by
        rw [Int.toNat_natCast]
        cases q : left.testBit i with
        | false => rfl
        | true => have := (hb i q).2; omega) (by rw [Int.toNat_natCast]; exact e) (by omega)
      have hlb := (lb_is left hl hne).1
      rw [hz, Int.toNat_natCast] at hlb
      rw [sParts_t e, show cPs N W (k + 1) left = 1 + cPs N W k (left ^^^ (left &&& gRs N W (lb left))) from if_neg hne, hlb, hRN p (hb p e).1]
      rw [cPs_sParts hRN hself s (p + 1) k _ (by omega) (by omega) (Nat.xor_lt_two_pow (n := 8) hl (Nat.lt_of_le_of_lt Nat.and_le_left hl)) (fun v hv => ?_)]
      rw [andn_bit, Bool.and_eq_true] at hv
      have h1 := hb v hv.1
      refine ⟨h1.1, ?_⟩
      by_cases q : v = p
      · rw [q, hself p (hb p e).1] at hv; simp at hv
      · omega
    · rw [sParts_f (by simpa using e)]
      refine cPs_sParts hRN hself s (p + 1) k left (by omega) (by omega) hl (fun v hv => ?_)
      have h1 := hb v hv
      refine ⟨h1.1, ?_⟩
      by_cases q : v = p
      · rw [q] at hv; exact absurd hv e
      · omega
theorem gOn_rg {L : Nat} {fr to' : Nat → Nat} {W : Nat} (h : gOn L fr to' W) : ∀ k, k < L → fr k < 8 ∧ to' k < 8 := fun k hk => ⟨bit8 h.1 (h.2 k hk).1, bit8 h.1 (h.2 k hk).2⟩
theorem cPs_is {L : Nat} {co : Int → Int} {W : Nat} (hg : gOn L (gFr co) (gTo co) W) : cPs (gNb (gFr co) (gTo co) L) W 8 W = tParts L co (-1) W := by
  unfold tParts
  refine cPs_sParts (fun x hx => (tR_cls hg hx).symm) (fun x hx => ?_) 8 0 8 W (by omega) (Nat.le_refl _) hg.1 (fun v hv => ⟨hv, Nat.zero_le _⟩)
  exact ((gR_dv (gOn_rg hg)).1 x (bit8 hg.1 hx)).2
theorem tParts_sum {L : Nat} {co : Int → Int} {W : Nat} {wl : Int} (hg : gOn L (gFr co) (gTo co) W) : ((tParts L co wl W : Nat) : Int) = zsum (fun v => zb (mnB (tR L co wl (-1)) W v.toNat = true)) 8 0 := by
  unfold tParts
  exact sParts_sum (gR_dv (gOn_rg hg)) hg.1 8 0 W (by omega) (fun v => ⟨fun h => ⟨h, fun u hu => absurd hu (Nat.not_lt_zero u)⟩, fun h => h.1⟩)
theorem gDel_bit {L : Nat} {fr to' : Nat → Nat} {sk : Nat → Bool} {k : Nat} (hr : ∀ k, k < L → fr k < 8 ∧ to' k < 8) (hk : k < L) (g1 : fr k ≠ to' k) (g2 : gTw L fr to' k = false) (hs : ∀ x, sk x = false ↔ x ≠ k) : ∀ u q, u < 8 → ((gDel (gDel (gNb fr to' L) (fr k) (to' k)) (to' k) (fr k) u).testBit q = true ↔ ∃ x, x < L ∧ sk x = false ∧ ((fr x = u ∧ to' x = q) ∨ (to' x = u ∧ fr x = q))) := by
  have hno : ∀ x, x < L → x ≠ k → ¬ (fr x = fr k ∧ to' x = to' k ∨ fr x = to' k ∧ to' x = fr k) := fun x hx hne h => by rw [gTw_t hx hne h] at g2; cases g2
  intro u q _
  have hb := gNb_bit fr to' L u q
  by_cases e1 : u = to' k
  · subst e1
    rw [gDel_s, gDel_o (fun h => g1 h.symm), andn_bit, Bool.and_eq_true, hb, Nat.testBit_two_pow]
    simp only [Bool.not_eq_true', decide_eq_false_iff_not]
    constructor
    · rintro ⟨⟨x, x1, x2⟩, hq⟩
      refine ⟨x, x1, (hs x).mpr (fun h => ?_), x2⟩
      subst h
      rcases x2 with ⟨a, b⟩ | ⟨a, b⟩
      · exact g1 a
      · exact hq b
    · rintro ⟨x, x1, x2, x3⟩
      refine ⟨⟨x, x1, x3⟩, fun hq => hno x x1 ((hs x).mp x2) ?_⟩
      rcases x3 with ⟨a, b⟩ | ⟨a, b⟩
      · exact Or.inr ⟨a, by rw [b, hq]⟩
      · exact Or.inl ⟨by rw [b, hq], a⟩
  · rw [gDel_o e1]
    by_cases e2 : u = fr k
    · subst e2
      rw [gDel_s, andn_bit, Bool.and_eq_true, hb, Nat.testBit_two_pow]
      simp only [Bool.not_eq_true', decide_eq_false_iff_not]
      constructor
      · rintro ⟨⟨x, x1, x2⟩, hq⟩
        refine ⟨x, x1, (hs x).mpr (fun h => ?_), x2⟩
        subst h
        rcases x2 with ⟨a, b⟩ | ⟨a, b⟩
        · exact hq b
        · exact g1 a.symm
      · rintro ⟨x, x1, x2, x3⟩
        refine ⟨⟨x, x1, x3⟩, fun hq => hno x x1 ((hs x).mp x2) ?_⟩
        rcases x3 with ⟨a, b⟩ | ⟨a, b⟩
        · exact Or.inl ⟨a, by rw [b, hq]⟩
        · exact Or.inr ⟨by rw [b, hq], a⟩
    · rw [gDel_o e2, hb]
      constructor
      · rintro ⟨x, x1, x2⟩
        refine ⟨x, x1, (hs x).mpr (fun h => ?_), x2⟩
        subst h
        rcases x2 with ⟨a, b⟩ | ⟨a, b⟩
        · exact e2 a.symm
        · exact e1 a.symm
      · rintro ⟨x, x1, x2, x3⟩; exact ⟨x, x1, x3⟩
theorem gBr_is {L : Nat} {co : Int → Int} {W k : Nat} (hg : gOn L (gFr co) (gTo co) W) (hk : k < L) : gBr L (gFr co) (gTo co) W k = zb ((tParts L co (-1) W : Int) < tParts L co (k : Int) W) := by
  have hr := gOn_rg hg
  obtain ⟨hka, hkb⟩ := hg.2 k hk
  have sk1 : ∀ x, gSk co (-1) (-1) x = false := fun x => by unfold gSk; rw [decide_eq_false_iff_not]; omega
  have sk2 : ∀ x, gSk co (k : Int) (-1) x = false ↔ x ≠ k := fun x => by unfold gSk; rw [decide_eq_false_iff_not]; omega
  have dv := gR_dv (sk := gSk co (-1) (-1)) hr
  have dv' := gR_dv (sk := gSk co (k : Int) (-1)) hr
  have ia := fun v (hv : v < 8) => gR_is (sk := gSk co (-1) (-1)) hv hr
  have ib := fun v (hv : v < 8) => gR_is (sk := gSk co (k : Int) (-1)) hv hr
  have a8 := (hr k hk).1
  have b8 := (hr k hk).2
  have hsub : ∀ v, v < 8 → gSub (tR L co (k : Int) (-1) v) (tR L co (-1) (-1) v) := fun v hv => (ib v hv).2.2.2 _ (ia v hv).2.1 (fun x hx _ => (ia v hv).2.2.1 x hx (sk1 x))
  rw [tParts_sum hg, tParts_sum hg]
  by_cases hab : (tR L co (k : Int) (-1) (gFr co k)).testBit (gTo co k) = true
  · -- nothing falls apart
    have he : ∀ v, v < 8 → tR L co (k : Int) (-1) v = tR L co (-1) (-1) v := fun v hv => by
      have hcl : gClosed L (gFr co) (gTo co) (gSk co (-1) (-1)) (tR L co (k : Int) (-1) v) := fun x hx _ => by
        by_cases e : x = k
        · subst e
          cases q1 : (tR L co (x : Int) (-1) v).testBit (gFr co x) with
          | true =>
            have e1 : tR L co (x : Int) (-1) (gFr co x) = tR L co (x : Int) (-1) v := dv'.2 _ v hv q1
            rw [e1] at hab; exact hab.symm
          | false =>
            cases q2 : (tR L co (x : Int) (-1) v).testBit (gTo co x) with
            | false => rfl
            | true =>
              have e1 : tR L co (x : Int) (-1) (gTo co x) = tR L co (x : Int) (-1) v := dv'.2 _ v hv q2
              have e2 : tR L co (x : Int) (-1) (gTo co x) = tR L co (x : Int) (-1) (gFr co x) := dv'.2 _ _ a8 hab
              have := (ib _ a8).2.1
              have t : (tR L co (x : Int) (-1) (gFr co x)).testBit (gFr co x) = true := this
              rw [← e2, e1, q1] at t
              cases t
        · exact (ib v hv).2.2.1 x hx ((sk2 x).mpr e)
      have s2 : gSub (tR L co (-1) (-1) v) (tR L co (k : Int) (-1) v) := (ia v hv).2.2.2 _ (ib v hv).2.1 hcl
      refine zset_ext (fun i => ?_)
      have a := hsub v hv i
      have b := s2 i
      cases e1 : (tR L co (k : Int) (-1) v).testBit i <;> cases e2 : (tR L co (-1) (-1) v).testBit i <;> simp_all
    have es : zsum (fun v => zb (mnB (tR L co (k : Int) (-1)) W v.toNat = true)) 8 0 = zsum (fun v => zb (mnB (tR L co (-1) (-1)) W v.toNat = true)) 8 0 := zsum_congr (fun i q0 q1 => by
      have : mnB (tR L co (k : Int) (-1)) W i.toNat = mnB (tR L co (-1) (-1)) W i.toNat := Bool.eq_iff_iff.mpr (by
        rw [mnB_iff, mnB_iff]
        constructor
        · rintro ⟨h1, h2⟩; exact ⟨h1, fun u hu hw => by rw [← he u (by omega)]; exact h2 u hu hw⟩
        · rintro ⟨h1, h2⟩; exact ⟨h1, fun u hu hw => by rw [he u (by omega)]; exact h2 u hu hw⟩)
      rw [this])
    rw [es, zb_f (by omega)]
    unfold gBr
    refine zb_f (fun h => ?_)
    obtain ⟨g1, g2, g3⟩ := h
    rw [← gR_eq (gRe_sk (sk := gSk co (k : Int) (-1)) hg.1 hka hg.2 (gDel_bit hr hk g1 g2 sk2) (gRs_is hg.1))] at g3
    have hab : (gR L (gFr co) (gTo co) (gSk co (k : Int) (-1)) (gFr co k)).testBit (gTo co k) = true := hab
    rw [hab] at g3
    cases g3
  · have hab : (tR L co (k : Int) (-1) (gFr co k)).testBit (gTo co k) = false := by simpa using hab
    have g1 : gFr co k ≠ gTo co k := fun h => by
      have t : (tR L co (k : Int) (-1) (gFr co k)).testBit (gFr co k) = true := (ib _ a8).2.1
      rw [← h, t] at hab; cases hab
    have g2 : gTw L (gFr co) (gTo co) k = false := gTw_f (fun x hx h => by
      have c := (ib _ a8).2.2.1 x hx ((sk2 x).mpr h.1)
      have t : (gR L (gFr co) (gTo co) (gSk co (k : Int) (-1)) (gFr co k)).testBit (gFr co k) = true := (ib _ a8).2.1
      have hab : (gR L (gFr co) (gTo co) (gSk co (k : Int) (-1)) (gFr co k)).testBit (gTo co k) = false := hab
      rcases h.2 with ⟨e1, e2⟩ | ⟨e1, e2⟩
      · rw [e1, e2, t, hab] at c; cases c
      · rw [e1, e2, t, hab] at c; cases c)
    have hcut := parts_cut (R := tR L co (-1) (-1)) (R' := tR L co (k : Int) (-1)) (a := gFr co k) (b := gTo co k) dv dv' hg.1 (fun u v hv hu => ?_) hka ?_ hsub (fun v hv hna => ?_) (fun v hv => ?_) hab
    · rw [hcut, zb_t (by omega)]
      unfold gBr
      refine zb_t ⟨g1, g2, ?_⟩
      rw [← gR_eq (gRe_sk (sk := gSk co (k : Int) (-1)) hg.1 hka hg.2 (gDel_bit hr hk g1 g2 sk2) (gRs_is hg.1))]
      exact hab
    · rw [tR_cls hg hv] at hu
      exact (gRs_is (N := gNb (gFr co) (gTo co) L) (A := 2 ^ v) hg.1).2.2.1 u hu
    · have c := (ia _ a8).2.2.1 k hk (sk1 k)
      have t := (ia _ a8).2.1
      rw [t] at c
      exact c.symm
    · -- away from the line
      have na : (tR L co (k : Int) (-1) v).testBit (gFr co k) = false := by
        cases q : (tR L co (k : Int) (-1) v).testBit (gFr co k) with
        | false => rfl
        | true => have := gDv_sym dv hv (hsub v hv _ q); rw [show (gR L (gFr co) (gTo co) (gSk co (-1) (-1)) (gFr co k)).testBit v = false from hna] at this; cases this
      have nb : (tR L co (k : Int) (-1) v).testBit (gTo co k) = false := by
        cases q : (tR L co (k : Int) (-1) v).testBit (gTo co k) with
        | false => rfl
        | true =>
          have h1 := hsub v hv _ q
          have c := (ia v hv).2.2.1 k hk (sk1 k)
          rw [show (gR L (gFr co) (gTo co) (gSk co (-1) (-1)) v).testBit (gTo co k) = true from h1] at c
          have := gDv_sym dv hv c
          rw [show (gR L (gFr co) (gTo co) (gSk co (-1) (-1)) (gFr co k)).testBit v = false from hna] at this; cases this
      have s2 : gSub (tR L co (-1) (-1) v) (tR L co (k : Int) (-1) v) := (ia v hv).2.2.2 _ (ib v hv).2.1 (fun x hx _ => by
        by_cases e : x = k
        · rw [e]; exact na.trans nb.symm
        · exact (ib v hv).2.2.1 x hx ((sk2 x).mpr e))
      refine zset_ext (fun i => ?_)
      have a := hsub v hv i
      have b := s2 i
      cases e1 : (tR L co (k : Int) (-1) v).testBit i <;> cases e2 : (tR L co (-1) (-1) v).testBit i <;> simp_all
    · have hT := (ia _ a8).2.2.2 (tR L co (k : Int) (-1) (gFr co k) ||| tR L co (k : Int) (-1) (gTo co k)) (by rw [Nat.testBit_or, show (tR L co (k : Int) (-1) (gFr co k)).testBit (gFr co k) = true from (ib _ a8).2.1, Bool.true_or]) (fun x hx _ => by
        by_cases e : x = k
        · rw [e, Nat.testBit_or, Nat.testBit_or, show (tR L co (k : Int) (-1) (gFr co k)).testBit (gFr co k) = true from (ib _ a8).2.1, show (tR L co (k : Int) (-1) (gTo co k)).testBit (gTo co k) = true from (ib _ b8).2.1, Bool.true_or, Bool.or_true]
        · rw [Nat.testBit_or, Nat.testBit_or, show (tR L co (k : Int) (-1) (gFr co k)).testBit (gFr co x) = (tR L co (k : Int) (-1) (gFr co k)).testBit (gTo co x) from (ib _ a8).2.2.1 x hx ((sk2 x).mpr e), show (tR L co (k : Int) (-1) (gTo co k)).testBit (gFr co x) = (tR L co (k : Int) (-1) (gTo co k)).testBit (gTo co x) from (ib _ b8).2.2.1 x hx ((sk2 x).mpr e)]) v hv
      rw [Nat.testBit_or, Bool.or_eq_true] at hT
      exact hT
