/-! the class's graphs and the model's -/
theorem gRs_is {N : Nat → Nat} {W A : Nat} (hW : W < 256) : gRe N W A (gRs N W A) := by
  have h8 : ∀ {x : Nat}, W.testBit x = true → x < 8 := fun {x} hx => by
    rcases Nat.lt_or_ge x 8 with q | q
    · exact q
    · rw [Nat.testBit_lt_two_pow (Nat.lt_of_lt_of_le hW (Nat.pow_le_pow_right (n := 2) (by omega) q))] at hx; cases hx
  have he : ∃ S, gRe N W A S := by
    refine ⟨zmask (fun v => @decide (∀ T, gSub (A &&& W) T → gCl N W T → T.testBit v = true) (Classical.propDecidable _)) 8, ?_⟩
    have hb : ∀ v, (zmask (fun v => @decide (∀ T, gSub (A &&& W) T → gCl N W T → T.testBit v = true) (Classical.propDecidable _)) 8).testBit v = true ↔ v < 8 ∧ ∀ T, gSub (A &&& W) T → gCl N W T → T.testBit v = true := fun v => by
      rw [zmask_bit, Bool.and_eq_true, decide_eq_true_eq, @decide_eq_true_eq _ (Classical.propDecidable _)]
    refine ⟨zmask_lt _ 8, fun v hv => ?_, fun v hv => ?_, fun v q q0 q1 q2 q3 => ?_, fun T t1 t2 v hv => ?_⟩
    · have hw : W.testBit v = true := by rw [Nat.testBit_and, Bool.and_eq_true] at hv; exact hv.2
      exact (hb v).mpr ⟨h8 hw, fun T t1 _ => t1 v hv⟩
    · exact ((hb v).mp hv).2 W (fun x hx => by rw [Nat.testBit_and, Bool.and_eq_true] at hx; exact hx.2) (fun _ _ _ _ _ h => h)
    · exact (hb q).mpr ⟨h8 q3, fun T t1 t2 => t2 v q q0 (((hb v).mp q1).2 T t1 t2) q2 q3⟩
    · exact ((hb v).mp hv).2 T t1 t2
  obtain ⟨S, hS⟩ := he
  rw [gRs_eq hS]
  exact hS
/-- lines between points of W -/
def gOn (L : Nat) (fr to' : Nat → Nat) (W : Nat) : Prop := W < 256 ∧ ∀ k, k < L → W.testBit (fr k) = true ∧ W.testBit (to' k) = true
theorem bit8 {W x : Nat} (hW : W < 256) (h : W.testBit x = true) : x < 8 := by
  rcases Nat.lt_or_ge x 8 with q | q
  · exact q
  · rw [Nat.testBit_lt_two_pow (Nat.lt_of_lt_of_le hW (Nat.pow_le_pow_right (n := 2) (by omega) q))] at h; cases h
/-- without a point: its lines are skipped -/
theorem gRe_cut {L : Nat} {fr to' : Nat → Nat} {sk : Nat → Bool} {W x S : Nat} {V : Nat} (hV : V < 256) (hx : V.testBit x = true) (hin : ∀ k, k < L → sk k = false → V.testBit (fr k) = true ∧ V.testBit (to' k) = true) (hsk : ∀ k, k < L → V.testBit (fr k) = true → V.testBit (to' k) = true → sk k = false) (h : gRe (gNb fr to' L) V (2 ^ x) S) : gReach L fr to' sk x S := by
  obtain ⟨h1, h2, h3, h4, h5⟩ := h
  have hxS : S.testBit x = true := h2 x (by rw [Nat.testBit_and, hx, Nat.testBit_two_pow_self]; rfl)
  refine ⟨h1, hxS, fun k hk hs => ?_, fun T t1 t2 v hv => ?_⟩
  · obtain ⟨a1, a2⟩ := hin k hk hs
    have l1 : S.testBit (fr k) = true → S.testBit (to' k) = true := fun h => h4 (fr k) (to' k) (bit8 hV a1) h ((gNb_bit fr to' L _ _).mpr ⟨k, hk, Or.inl ⟨rfl, rfl⟩⟩) a2
    have l2 : S.testBit (to' k) = true → S.testBit (fr k) = true := fun h => h4 (to' k) (fr k) (bit8 hV a2) h ((gNb_bit fr to' L _ _).mpr ⟨k, hk, Or.inr ⟨rfl, rfl⟩⟩) a1
    cases e1 : S.testBit (fr k) <;> cases e2 : S.testBit (to' k) <;> simp_all
  · have := h5 (T &&& V) (fun y hy => ?_) (fun u q q0 q1 q2 q3 => ?_) v hv
    · rw [Nat.testBit_and, Bool.and_eq_true] at this; exact this.1
    · rw [Nat.testBit_and, Bool.and_eq_true, Nat.testBit_two_pow, decide_eq_true_eq] at hy
      rw [Nat.testBit_and, hy.2, ← hy.1, t1]; rfl
    · rw [Nat.testBit_and, Bool.and_eq_true] at q1
      rw [Nat.testBit_and, q3, Bool.and_true]
      obtain ⟨k, k1, k2⟩ := (gNb_bit fr to' L u q).mp q2
      rcases k2 with ⟨e1, e2⟩ | ⟨e1, e2⟩
      · have := t2 k k1 (hsk k k1 (by rw [e1]; exact q1.2) (by rw [e2]; exact q3))
        rw [e1, e2, q1.1] at this; exact this.symm
      · have := t2 k k1 (hsk k k1 (by rw [e2]; exact q3) (by rw [e1]; exact q1.2))
        rw [e1, e2, q1.1] at this; exact this
theorem tR_cls {L : Nat} {co : Int → Int} {W x : Nat} (hg : gOn L (gFr co) (gTo co) W) (hx : W.testBit x = true) : tR L co (-1) (-1) x = gRs (gNb (gFr co) (gTo co) L) W (2 ^ x) := by
  have hs : ∀ k, gSk co (-1) (-1) k = false := fun k => by unfold gSk; rw [decide_eq_false_iff_not]; omega
  unfold tR
  exact gR_eq (gRe_cut (W := W) hg.1 hx (fun k hk _ => hg.2 k hk) (fun k _ _ _ => hs k) (gRs_is hg.1))
theorem tR_cutc {L : Nat} {co : Int → Int} {W x p : Nat} (hg : gOn L (gFr co) (gTo co) W) (hx : W.testBit x = true) (hne : x ≠ p) : tR L co (-1) (p : Int) x = gRs (gNb (gFr co) (gTo co) L) (W ^^^ (W &&& 2 ^ p)) (2 ^ x) := by
  have hb : ∀ i, (W ^^^ (W &&& 2 ^ p)).testBit i = true ↔ W.testBit i = true ∧ i ≠ p := fun i => by
    rw [andn_bit, Bool.and_eq_true, Nat.testBit_two_pow]
    simp only [Bool.not_eq_true', decide_eq_false_iff_not]
    constructor
    · rintro ⟨a, b⟩; exact ⟨a, fun h => b h.symm⟩
    · rintro ⟨a, b⟩; exact ⟨a, fun h => b h.symm⟩
  have hl : W ^^^ (W &&& 2 ^ p) < 256 := Nat.xor_lt_two_pow (n := 8) hg.1 (Nat.lt_of_le_of_lt Nat.and_le_left hg.1)
  unfold tR
  refine gR_eq (gRe_cut (W := W) hl ((hb x).mpr ⟨hx, hne⟩) (fun k hk hs => ?_) (fun k hk h1 h2 => ?_) (gRs_is hl))
  · unfold gSk at hs
    rw [decide_eq_false_iff_not] at hs
    exact ⟨(hb _).mpr ⟨(hg.2 k hk).1, by omega⟩, (hb _).mpr ⟨(hg.2 k hk).2, by omega⟩⟩
  · have a := ((hb _).mp h1).2
    have b := ((hb _).mp h2).2
    unfold gSk
    rw [decide_eq_false_iff_not]
    omega
/-- the least bit -/
theorem lb_is : ∀ a : Nat, a < 256 → a ≠ 0 → lb a = 2 ^ (zfst (fun x => a.testBit x.toNat) 8 0).toNat ∧ 0 ≤ zfst (fun x => a.testBit x.toNat) 8 0 ∧ zfst (fun x => a.testBit x.toNat) 8 0 < 8 ∧ a.testBit (zfst (fun x => a.testBit x.toNat) 8 0).toNat = true := by decide +kernel
theorem gRs_lb {N : Nat → Nat} {W a : Nat} (ha : a < 256) (hn : a ≠ 0) : gRs N W (lb a) = gRs N W (2 ^ (zfst (fun x => a.testBit x.toNat) 8 0).toNat) := by rw [(lb_is a ha hn).1]
/-- which points hold: as the model tells it -/
theorem gCut_is {L : Nat} {co : Int → Int} {W p : Nat} (hg : gOn L (gFr co) (gTo co) W) (hp : W.testBit p = true) : gCut (gNb (gFr co) (gTo co) L) W p = zb (tHf L co p = true) := by
  unfold gCut tHf
  rw [← tR_cls hg hp]
  generalize hO : tR L co (-1) (-1) p ^^^ (tR L co (-1) (-1) p &&& 2 ^ p) = O
  have hrl : tR L co (-1) (-1) p < 256 := by rw [tR_cls hg hp]; exact gRs_lt
  have hol : O < 256 := by rw [← hO]; exact Nat.xor_lt_two_pow (n := 8) hrl (Nat.lt_of_le_of_lt Nat.and_le_left hrl)
  by_cases e : O = 0
  · rw [zb_f (fun h => h.1 e), zb_f (by rw [decide_eq_true_eq]; exact fun h => h.1 e)]
  · have h := lb_is O hol e
    have hbit := h.2.2.2
    rw [← hO, andn_bit, Bool.and_eq_true, Nat.testBit_two_pow] at hbit
    rw [hO] at hbit
    have hsub := (gRs_is (N := gNb (gFr co) (gTo co) L) (A := 2 ^ p) hg.1).2.2.1
    rw [← tR_cls hg hp] at hsub
    have hne : (zfst (fun x => O.testBit x.toNat) 8 0).toNat ≠ p := fun h => by have := hbit.2; rw [h] at this; simp at this
    rw [gRs_lb hol e, ← tR_cutc hg (hsub _ hbit.1) hne]
    by_cases q : tR L co (-1) (p : Int) (zfst (fun x => O.testBit x.toNat) 8 0).toNat = O
    · rw [zb_f (fun h => h.2 q), zb_f (by rw [decide_eq_true_eq]; exact fun h => h.2 q)]
    · rw [zb_t ⟨e, q⟩, zb_t (by rw [decide_eq_true_eq]; exact ⟨e, q⟩)]
/-- steps -/
theorem gStp_bit {co : Int → Int} {was q : Nat} : ∀ {j k S : Nat}, (gStp co was j k S).testBit q = true ↔ S.testBit q = true ∨ ∃ x, k ≤ x ∧ x < k + j ∧ (was.testBit (gFr co x) = true ∨ was.testBit (gTo co x) = true) ∧ (gFr co x = q ∨ gTo co x = q)
  | 0, k, S => by
    show S.testBit q = true ↔ _
    constructor
    · exact Or.inl
    · rintro (h | ⟨x, h1, h2, _⟩)
      · exact h
      · omega
  | j + 1, k, S => by
    rw [gStp_s, gStp_bit (j := j)]
    constructor
    · rintro (h | ⟨x, h1, h2, h3⟩)
      · split at h
        · rename_i hc
          rw [Nat.testBit_or, Nat.testBit_or, Bool.or_eq_true, Bool.or_eq_true, Nat.testBit_two_pow, Nat.testBit_two_pow, decide_eq_true_eq, decide_eq_true_eq] at h
          rcases h with h | h
          · exact Or.inl h
          · exact Or.inr ⟨k, by omega, by omega, hc, h⟩
        · exact Or.inl h
      · exact Or.inr ⟨x, by omega, by omega, h3⟩
    · rintro (h | ⟨x, h1, h2, h3, h4⟩)
      · left
        split
        · rw [Nat.testBit_or, h, Bool.true_or]
        · exact h
      · by_cases e : x = k
        · subst e
          left
          rw [if_pos h3, Nat.testBit_or, Nat.testBit_or, Bool.or_eq_true, Bool.or_eq_true, Nat.testBit_two_pow, Nat.testBit_two_pow, decide_eq_true_eq, decide_eq_true_eq]
          exact Or.inr h4
        · exact Or.inr ⟨x, by omega, by omega, h3, h4⟩
theorem dIt_is {L : Nat} {co : Int → Int} {W p : Nat} (hg : gOn L (gFr co) (gTo co) W) : ∀ n, dIt (gNb (gFr co) (gTo co) L) W p n = gIt L co p n
  | 0 => rfl
  | n + 1 => by
    have ih := dIt_is (p := p) hg n
    show dIt _ W p n ||| (gUn _ (dIt _ W p n) 8 &&& W) = gStp co (gIt L co p n) L 0 (gIt L co p n)
    rw [ih]
    refine zset_ext (fun q => Bool.eq_iff_iff.mpr ?_)
    rw [Nat.testBit_or, Bool.or_eq_true, Nat.testBit_and, Bool.and_eq_true, gUn_bit, gStp_bit]
    constructor
    · rintro (h | ⟨⟨v, v1, v2, v3⟩, _⟩)
      · exact Or.inl h
      · obtain ⟨k, k1, k2⟩ := (gNb_bit _ _ L v q).mp v3
        rcases k2 with ⟨e1, e2⟩ | ⟨e1, e2⟩
        · exact Or.inr ⟨k, by omega, by omega, Or.inl (by rw [e1]; exact v2), Or.inr e2⟩
        · exact Or.inr ⟨k, by omega, by omega, Or.inr (by rw [e1]; exact v2), Or.inl e2⟩
    · rintro (h | ⟨k, k1, k2, k3, k4⟩)
      · exact Or.inl h
      · have hk := hg.2 k (by omega)
        rcases k3 with k3 | k3 <;> rcases k4 with k4 | k4
        · left; rw [← k4]; exact k3
        · right; exact ⟨⟨gFr co k, bit8 hg.1 hk.1, k3, (gNb_bit _ _ L _ _).mpr ⟨k, by omega, Or.inl ⟨rfl, k4⟩⟩⟩, by rw [← k4]; exact hk.2⟩
        · right; exact ⟨⟨gTo co k, bit8 hg.1 hk.2, k3, (gNb_bit _ _ L _ _).mpr ⟨k, by omega, Or.inr ⟨rfl, k4⟩⟩⟩, by rw [← k4]; exact hk.1⟩
        · left; rw [← k4]; exact k3
