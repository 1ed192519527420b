/-! changes of places: which there are, and how many -/
theorem oct_bit {a s t : Nat} : (a / 2 ^ s % 8).testBit t = (decide (t < 3) && a.testBit (t + s)) := by
  rw [show (8 : Nat) = 2 ^ 3 from rfl, Nat.testBit_mod_two_pow, Nat.testBit_div_two_pow]
theorem chP_lo {ch p q x : Nat} (hx : x < p) : chP (ch ||| q * 2 ^ (3 * p)) (x : Int) = chP ch (x : Int) := by
  unfold chP
  rw [Int.toNat_natCast]
  congr 1
  refine zset_ext (fun t => ?_)
  rw [oct_bit, oct_bit, Nat.testBit_or, mul_bit]
  by_cases h : t < 3
  · rw [decide_eq_true h, decide_eq_false (show ¬ 3 * p ≤ t + 3 * x by omega)]
    simp
  · rw [decide_eq_false h, Bool.false_and, Bool.false_and]
theorem chP_hi {ch p q : Nat} (hc : ch < 2 ^ (3 * p)) (hq : q < 8) : chP (ch ||| q * 2 ^ (3 * p)) (p : Int) = (q : Int) := by
  unfold chP
  rw [Int.toNat_natCast]
  congr 1
  refine zset_ext (fun t => ?_)
  rw [oct_bit, Nat.testBit_or, mul_bit]
  by_cases h : t < 3
  · rw [decide_eq_true h, decide_eq_true (show 3 * p ≤ t + 3 * p by omega), Nat.testBit_lt_two_pow (Nat.lt_of_lt_of_le hc (Nat.pow_le_pow_right (n := 2) (by omega) (by omega))), show t + 3 * p - 3 * p = t by omega]
    simp
  · rw [decide_eq_false h, Bool.false_and, Nat.testBit_lt_two_pow (Nat.lt_of_lt_of_le hq (Nat.pow_le_pow_right (n := 2) (i := 3) (by omega) (by omega)))]
theorem ch_lt {ch p q : Nat} (hc : ch < 2 ^ (3 * p)) (hq : q < 8) : ch ||| q * 2 ^ (3 * p) < 2 ^ (3 * (p + 1)) := by
  have e : 2 ^ (3 * (p + 1)) = 8 * 2 ^ (3 * p) := by rw [show 3 * (p + 1) = 3 * p + 3 by omega, Nat.pow_add]; omega
  refine Nat.or_lt_two_pow (by omega) ?_
  have : q * 2 ^ (3 * p) ≤ 7 * 2 ^ (3 * p) := Nat.mul_le_mul_right _ (by omega)
  omega
theorem sCat_map {α β : Type} (f : α → β) (g : Int → List α) : ∀ (s : Nat) (k : Int), (sCat g s k).map f = sCat (fun q => (g q).map f) s k
  | 0, _ => rfl
  | s + 1, k => by rw [sCat_s, sCat_s, List.map_append, sCat_map f g s (k + 1)]
theorem sCh_s (nP : Nat) (al : Int → Int → Bool) (s p used ch : Nat) : sCh nP al (s + 1) p used ch = sCat (gCh nP al s p used ch) nP 0 := rfl
theorem plc_map {nP : Nat} {al : Int → Int → Bool} {V : (Int → Int) → Int} (hn : nP ≤ 8) (hV : ∀ π π' : Int → Int, (∀ x : Nat, x < nP → π (x : Int) = π' (x : Int)) → V π = V π') : ∀ (s p used ch : Nat) (pl : Int → Int), p + s = nP → ch < 2 ^ (3 * p) → (∀ x : Nat, x < p → pl (x : Int) = chP ch (x : Int)) → sPlc nP al V s p used pl = (sCh nP al s p used ch).map (fun ch => V (chP ch))
  | 0, p, used, ch, pl, hp, hc, h => by
    show [V pl] = [V (chP ch)]
    rw [hV pl (chP ch) (fun x hx => h x (by omega))]
  | s + 1, p, used, ch, pl, hp, hc, h => by
    rw [sCh_s, sCat_map]
    show sCat _ nP 0 = _
    refine sCat_congr (fun q q0 q1 => ?_)
    obtain ⟨qn, rfl⟩ := Int.eq_ofNat_of_zero_le q0
    show (if _ then _ else _) = (gCh nP al s p used ch (qn : Int)).map _
    unfold gCh
    by_cases hc' : used.testBit (qn : Int).toNat = false ∧ ((qn : Int) = (p : Int) ∨ al (p : Int) (qn : Int) = true)
    · rw [if_pos hc', if_pos hc']
      refine plc_map hn hV s (p + 1) _ _ _ (by omega) (by rw [Int.toNat_natCast]; exact ch_lt hc (by omega)) (fun x hx => ?_)
      rw [Int.toNat_natCast]
      by_cases e : x = p
      · rw [e, if_pos rfl, chP_hi hc (by omega)]
      · rw [if_neg (by omega), chP_lo (by omega)]
        exact h x (by omega)
    · rw [if_neg hc', if_neg hc']
      rfl
/-- a change of places -/
def isPl (nP : Nat) (al : Int → Int → Bool) (used p : Nat) (π : Int → Int) : Prop := (∀ x : Nat, p ≤ x → x < nP → (0 ≤ π (x : Int) ∧ π (x : Int) < nP) ∧ (π (x : Int) = (x : Int) ∨ al (x : Int) (π (x : Int)) = true) ∧ used.testBit (π (x : Int)).toNat = false) ∧ ∀ x y : Nat, p ≤ x → x < nP → p ≤ y → y < nP → π (x : Int) = π (y : Int) → x = y
theorem sCh_mem {nP : Nat} {al : Int → Int → Bool} (hn : nP ≤ 8) : ∀ (s p used ch ch' : Nat), p + s = nP → ch < 2 ^ (3 * p) → ch' ∈ sCh nP al s p used ch → (∀ x : Nat, x < p → chP ch' (x : Int) = chP ch (x : Int)) ∧ isPl nP al used p (chP ch') ∧ ch' < 2 ^ (3 * nP)
  | 0, p, used, ch, ch', hp, hc, h => by
    have e : ch' = ch := List.mem_singleton.mp h
    rw [e]
    exact ⟨fun _ _ => rfl, ⟨fun x h1 h2 => by omega, fun x y h1 h2 => by omega⟩, by rw [← hp]; exact hc⟩
  | s + 1, p, used, ch, ch', hp, hc, h => by
    rw [sCh_s] at h
    obtain ⟨q, q0, q1, hq⟩ := sCat_mem h
    obtain ⟨qn, rfl⟩ := Int.eq_ofNat_of_zero_le q0
    unfold gCh at hq
    by_cases hc' : used.testBit (qn : Int).toNat = false ∧ ((qn : Int) = (p : Int) ∨ al (p : Int) (qn : Int) = true)
    · rw [if_pos hc', Int.toNat_natCast] at hq
      rw [Int.toNat_natCast] at hc'
      obtain ⟨h1, ⟨h2, h3⟩, h4⟩ := sCh_mem hn s (p + 1) _ _ ch' (by omega) (ch_lt hc (by omega)) hq
      have hv : chP ch' (p : Int) = (qn : Int) := by rw [h1 p (by omega), chP_hi hc (by omega)]
      have hd : ∀ x : Nat, p + 1 ≤ x → x < nP → used.testBit (chP ch' (x : Int)).toNat = false ∧ chP ch' (x : Int) ≠ (qn : Int) := fun x x1 x2 => by
        have := (h2 x x1 x2).2.2
        rw [Nat.testBit_or, Bool.or_eq_false_iff, Nat.testBit_two_pow, decide_eq_false_iff_not] at this
        have hb := (h2 x x1 x2).1
        exact ⟨this.1, fun e => this.2 (by rw [e, Int.toNat_natCast])⟩
      refine ⟨fun x hx => by rw [h1 x (by omega), chP_lo hx], ⟨fun x x1 x2 => ?_, fun x y x1 x2 y1 y2 e => ?_⟩, h4⟩
      · by_cases e : x = p
        · rw [e, hv, Int.toNat_natCast]
          exact ⟨by omega, hc'.2, hc'.1⟩
        · exact ⟨(h2 x (by omega) x2).1, (h2 x (by omega) x2).2.1, (hd x (by omega) x2).1⟩
      · by_cases ex : x = p
        · by_cases ey : y = p
          · omega
          · rw [ex, hv] at e
            exact absurd e.symm (hd y (by omega) y2).2
        · by_cases ey : y = p
          · rw [ey, hv] at e
            exact absurd e (hd x (by omega) x2).2
          · exact h3 x y (by omega) x2 (by omega) y2 e
    · rw [if_neg hc'] at hq
      cases hq
theorem sCh_all {nP : Nat} {al : Int → Int → Bool} (hn : nP ≤ 8) {π : Int → Int} : ∀ (s p used ch : Nat), p + s = nP → ch < 2 ^ (3 * p) → isPl nP al used p π → ∃ ch' ∈ sCh nP al s p used ch, ∀ x : Nat, p ≤ x → x < nP → chP ch' (x : Int) = π (x : Int)
  | 0, p, used, ch, hp, hc, h => ⟨ch, List.mem_singleton.mpr rfl, fun x h1 h2 => by omega⟩
  | s + 1, p, used, ch, hp, hc, h => by
    have hq := h.1 p (Nat.le_refl _) (by omega)
    obtain ⟨qn, eq⟩ := Int.eq_ofNat_of_zero_le hq.1.1
    rw [eq, Int.toNat_natCast] at hq
    obtain ⟨ch', m1, m2⟩ := sCh_all (al := al) hn (π := π) s (p + 1) (used ||| 2 ^ qn) (ch ||| qn * 2 ^ (3 * p)) (by omega) (ch_lt hc (by omega)) ⟨fun x x1 x2 => ⟨(h.1 x (by omega) x2).1, (h.1 x (by omega) x2).2.1, by
      rw [Nat.testBit_or, (h.1 x (by omega) x2).2.2, Bool.false_or, Nat.testBit_two_pow, decide_eq_false_iff_not]
      intro e
      have hx := (h.1 x (by omega) x2).1
      have := h.2 x p (by omega) x2 (Nat.le_refl _) (by omega) (by rw [eq]; omega)
      omega⟩, fun x y x1 x2 y1 y2 e => h.2 x y (by omega) x2 (by omega) y2 e⟩
    refine ⟨ch', ?_, fun x x1 x2 => ?_⟩
    · rw [sCh_s]
      refine sCat_mem' (j := (qn : Int)) (by omega) (by omega) ?_
      unfold gCh
      rw [if_pos (by rw [Int.toNat_natCast]; exact ⟨hq.2.2, hq.2.1⟩), Int.toNat_natCast]
      exact m1
    · by_cases e : x = p
      · rw [e, (sCh_mem hn s (p + 1) _ _ ch' (by omega) (ch_lt hc (by omega)) m1).1 p (by omega), chP_hi hc (by omega), eq]
      · exact m2 x (by omega) x2
/-- how many at most -/
def fac : Nat → Int
  | 0 => 1
  | n + 1 => ((n : Int) + 1) * fac n
theorem fac_1 : ∀ n, 1 ≤ fac n
  | 0 => by decide
  | n + 1 => by
    have := fac_1 n
    show 1 ≤ ((n : Int) + 1) * fac n
    have h := Int.mul_le_mul_of_nonneg_right (show (1 : Int) ≤ (n : Int) + 1 by omega) (show 0 ≤ fac n by omega)
    omega
theorem fac_m {a b : Nat} (h : a ≤ b) : fac a ≤ fac b := by
  induction b with
  | zero => rw [show a = 0 by omega]; exact Int.le_refl _
  | succ b ih =>
    by_cases e : a = b + 1
    · rw [e]; exact Int.le_refl _
    · have h1 := ih (by omega)
      have h2 := fac_1 b
      show fac a ≤ ((b : Int) + 1) * fac b
      have h := Int.mul_le_mul_of_nonneg_right (show (1 : Int) ≤ (b : Int) + 1 by omega) (show 0 ≤ fac b by omega)
      omega
def vfr (nP : Nat) (vx : Int → Bool) (used : Nat) : Int := zsum (fun q => zb (vx q = true ∧ used.testBit q.toNat = false)) nP 0
theorem vfr_nn (nP : Nat) (vx : Int → Bool) (used : Nat) : 0 ≤ vfr nP vx used := zsum_nn (fun q _ _ => by have := zb01 (vx q = true ∧ used.testBit q.toNat = false); omega)
theorem vfr_up {nP : Nat} {vx : Int → Bool} {used q : Nat} (hq : q < nP) (h : used.testBit q = false) : vfr nP vx (used ||| 2 ^ q) = vfr nP vx used - zb (vx (q : Int) = true) := by
  have e : zsum (fun x => zb (vx x = true ∧ (used ||| 2 ^ q).testBit x.toNat = false) + zb (x = (q : Int)) * zb (vx (q : Int) = true)) nP 0 = vfr nP vx used := zsum_congr (fun x x0 x1 => by
    rw [Nat.testBit_or, Nat.testBit_two_pow]
    by_cases e : x = (q : Int)
    · rw [e, Int.toNat_natCast, h, zb_t rfl, zb_f (by simp), Int.one_mul, Int.zero_add]
      exact zb_congr ⟨fun z => ⟨z, rfl⟩, fun z => z.1⟩
    · rw [zb_f e, Int.zero_mul, Int.add_zero, decide_eq_false (show ¬ q = x.toNat by omega), Bool.or_false])
  rw [zsum_add, zsum_mul, zsum_ind (by omega) (by omega), Int.one_mul] at e
  unfold vfr at *
  omega
theorem sCh_len {nP : Nat} {al : Int → Int → Bool} {vx : Int → Bool} (hal : ∀ p q : Int, al p q = true → vx p = true ∧ vx q = true) : ∀ (s p used ch : Nat), p + s = nP → ((sCh nP al s p used ch).length : Int) ≤ fac (vfr nP vx used).toNat
  | 0, p, used, ch, hp => by
    have := fac_1 (vfr nP vx used).toNat
    show ((([ch] : List Nat).length : Nat) : Int) ≤ _
    simp only [List.length_cons, List.length_nil]
    omega
  | s + 1, p, used, ch, hp => by
    have ih := sCh_len (nP := nP) hal s (p + 1)
    rw [sCh_s, sCat_length]
    by_cases hv : vx (p : Int) = true
    · have hb : zsum (fun q => ((gCh nP al s p used ch q).length : Int)) nP 0 ≤ zsum (fun q => zb (vx q = true ∧ used.testBit q.toNat = false) * fac ((vfr nP vx used).toNat - 1)) nP 0 := zsum_le (fun q q0 q1 => by
        obtain ⟨qn, rfl⟩ := Int.eq_ofNat_of_zero_le q0
        unfold gCh
        by_cases hc : used.testBit (qn : Int).toNat = false ∧ ((qn : Int) = (p : Int) ∨ al (p : Int) (qn : Int) = true)
        · have hvq : vx (qn : Int) = true := by
            rcases hc.2 with z | z
            · rw [z]; exact hv
            · exact (hal _ _ z).2
          rw [if_pos hc, zb_t ⟨hvq, hc.1⟩, Int.one_mul]
          have h1 := ih (used ||| 2 ^ (qn : Int).toNat) (ch ||| (qn : Int).toNat * 2 ^ (3 * p)) (by omega)
          rw [Int.toNat_natCast] at hc h1 ⊢
          rw [vfr_up (by omega) hc.1, zb_t hvq, show (vfr nP vx used - 1).toNat = (vfr nP vx used).toNat - 1 by omega] at h1
          exact h1
        · rw [if_neg hc]
          have h1 := zb01 (vx (qn : Int) = true ∧ used.testBit (qn : Int).toNat = false)
          have h2 := fac_1 ((vfr nP vx used).toNat - 1)
          have := Int.mul_nonneg (show 0 ≤ zb (vx (qn : Int) = true ∧ used.testBit (qn : Int).toNat = false) by omega) (show 0 ≤ fac ((vfr nP vx used).toNat - 1) by omega)
          exact this)
      rw [zsum_mul] at hb
      refine Int.le_trans hb ?_
      have hn := vfr_nn nP vx used
      rw [show zsum (fun q => zb (vx q = true ∧ used.testBit q.toNat = false)) nP 0 = vfr nP vx used from rfl]
      rcases Nat.eq_zero_or_pos (vfr nP vx used).toNat with z | z
      · rw [show vfr nP vx used = 0 by omega, Int.zero_mul]; exact by have := fac_1 (0 : Int).toNat; omega
      · obtain ⟨k, hk⟩ : ∃ k, (vfr nP vx used).toNat = k + 1 := ⟨(vfr nP vx used).toNat - 1, by omega⟩
        rw [hk, show k + 1 - 1 = k by omega, show vfr nP vx used = (k : Int) + 1 by omega]
        exact Int.le_refl _
    · have hb : zsum (fun q => ((gCh nP al s p used ch q).length : Int)) nP 0 ≤ zsum (fun q => zb (q = (p : Int)) * fac (vfr nP vx used).toNat) nP 0 := zsum_le (fun q q0 q1 => by
        obtain ⟨qn, rfl⟩ := Int.eq_ofNat_of_zero_le q0
        unfold gCh
        have h2 := fac_1 (vfr nP vx used).toNat
        by_cases hc : used.testBit (qn : Int).toNat = false ∧ ((qn : Int) = (p : Int) ∨ al (p : Int) (qn : Int) = true)
        · have e : (qn : Int) = (p : Int) := by
            rcases hc.2 with z | z
            · exact z
            · exact absurd (hal _ _ z).1 hv
          rw [if_pos hc, zb_t e, Int.one_mul]
          have h1 := ih (used ||| 2 ^ (qn : Int).toNat) (ch ||| (qn : Int).toNat * 2 ^ (3 * p)) (by omega)
          rw [Int.toNat_natCast] at hc h1 ⊢
          rw [vfr_up (by omega) hc.1, zb_f (by rw [e]; exact hv), Int.sub_zero] at h1
          exact h1
        · rw [if_neg hc]
          have h1 := zb01 ((qn : Int) = (p : Int))
          exact Int.mul_nonneg (show 0 ≤ zb ((qn : Int) = (p : Int)) by omega) (by omega))
      rw [zsum_mul, zsum_ind (by omega) (by omega), Int.one_mul] at hb
      exact hb
