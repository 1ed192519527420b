/-! rings by what is left; rows that come of laying -/
def lfS (n seen : Nat) : Nat := zmask (fun x => !seen.testBit x) n
theorem lfS_bit {n seen x : Nat} : (lfS n seen).testBit x = true ↔ x < n ∧ seen.testBit x = false := by
  unfold lfS
  rw [zmask_bit, Bool.and_eq_true, decide_eq_true_eq, Bool.not_eq_true']
theorem lfS_lt (n seen : Nat) : lfS n seen < 2 ^ n := zmask_lt _ _
theorem lfS_or {n seen b : Nat} : lfS n seen ^^^ (lfS n seen &&& b) = lfS n (seen ||| b) := zset_ext (fun x => by
  rw [andn_bit]
  unfold lfS
  rw [zmask_bit, zmask_bit, Nat.testBit_or]
  cases decide (x < n) <;> cases seen.testBit x <;> cases b.testBit x <;> rfl)
theorem lfS_full (n : Nat) : lfS n 0 = 2 ^ n - 1 := zset_ext (fun x => by
  unfold lfS
  rw [zmask_bit, Nat.testBit_two_pow_sub_one, Nat.zero_testBit, Bool.not_false, Bool.and_true])
theorem lfS_0 {n seen : Nat} (h : lfS n seen = 0) {x : Nat} (hx : x < n) : seen.testBit x = true := by
  cases e : seen.testBit x
  · have := lfS_bit.mpr ⟨hx, e⟩
    rw [h, Nat.zero_testBit] at this
    cases this
  · rfl
theorem sUn_left {n seen : Nat} (h : sUn seen n = 0) : lfS n seen = 0 := zset_ext (fun x => by
  rw [Nat.zero_testBit]
  cases e : (lfS n seen).testBit x
  · rfl
  · have := lfS_bit.mp e
    rw [sUn_0 this.1 h] at this
    cases this.2)
theorem sTrG_sub {ad nx : Nat → Nat} {x : Nat} : ∀ (u seen a : Nat), seen.testBit x = true → (sTrG ad nx u seen a).testBit x = true
  | 0, _, _, h => h
  | u + 1, seen, a, h => by
    unfold sTrG
    split
    · exact h
    · exact sTrG_sub u _ _ (by rw [Nat.testBit_or, h, Bool.true_or])
theorem sTrG_has {ad nx : Nat → Nat} {n : Nat} (had : ∀ a, a < n → (ad a).testBit a = true) {u seen a : Nat} (ha : a < n) : (sTrG ad nx (u + 1) seen a).testBit a = true := by
  unfold sTrG
  split
  · assumption
  · exact sTrG_sub u _ _ (by rw [Nat.testBit_or, had a ha, Bool.or_true])
theorem sTrG_fuel {ad nx : Nat → Nat} {n : Nat} (hx : ∀ a, a < n → nx a < n) (had : ∀ a, a < n → (ad a).testBit a = true) : ∀ (u seen a : Nat), a < n → sUn seen n ≤ u → sTrG ad nx (u + 1) seen a = sTrG ad nx u seen a
  | 0, seen, a, ha, h => by rw [sTrG_t (sUn_0 ha (by omega))]; rfl
  | u + 1, seen, a, ha, h => by
    cases e : seen.testBit a
    · rw [sTrG_f e, sTrG_f e]
      refine sTrG_fuel hx had u _ _ (hx a ha) ?_
      have := sUn_lt (a := seen) (b := seen ||| ad a) (v := a) (fun v hv => by rw [Nat.testBit_or, hv, Bool.true_or]) e (by rw [Nat.testBit_or, had a ha, Bool.or_true]) n ha
      omega
    · rw [sTrG_t e, sTrG_t e]
theorem sTrG_12 {ad nx : Nat → Nat} {n : Nat} (hx : ∀ a, a < n → nx a < n) (had : ∀ a, a < n → (ad a).testBit a = true) {seen a : Nat} (ha : a < n) : ∀ k, sTrG ad nx (n + k) seen a = sTrG ad nx n seen a
  | 0 => rfl
  | k + 1 => by
    have := sUn_le seen n
    rw [show n + (k + 1) = (n + k) + 1 by omega, sTrG_fuel hx had _ _ _ ha (by omega), sTrG_12 hx had ha k]
theorem sRiG_skip {ad nx : Nat → Nat} {n seen : Nat} : ∀ (e s k : Nat), (∀ x, k ≤ x → x < k + e → seen.testBit x = true) → sRiG ad nx n (s + e) k seen = sRiG ad nx n s (k + e) seen
  | 0, _, _, _ => rfl
  | e + 1, s, k, h => by
    rw [show s + (e + 1) = (s + e) + 1 by omega, sRiG_t (h k (by omega) (by omega)), sRiG_skip e s (k + 1) (fun x h1 h2 => h x (by omega) (by omega)), show k + 1 + e = k + (e + 1) by omega]
theorem sRiG_no {ad nx : Nat → Nat} {n seen : Nat} (h : lfS n seen = 0) : sRiG ad nx n n 0 seen = 0 := by
  have := sRiG_skip (ad := ad) (nx := nx) (n := n) (seen := seen) n 0 0 (fun x _ h2 => lfS_0 h (by omega))
  rw [Nat.zero_add] at this
  rw [this]
  rfl
theorem sRiG_one {ad nx : Nat → Nat} {n seen : Nat} (hn : n ≤ 12) (had : ∀ a, a < n → (ad a).testBit a = true) (h : lfS n seen ≠ 0) : sRiG ad nx n n 0 seen = 1 + sRiG ad nx n n 0 (sTrG ad nx n seen (lo (lfS n seen))) := by
  have hl := lo_n hn (lfS_lt n seen) h
  have hb := (lfS_bit.mp hl.2.1).2
  have hs : ∀ x, x < lo (lfS n seen) → seen.testBit x = true := fun x hx => by
    cases e : seen.testBit x
    · have := hl.2.2 x hx
      rw [lfS_bit.mpr ⟨by omega, e⟩] at this
      cases this
    · rfl
  obtain ⟨s, es⟩ : ∃ s, n = s + 1 + lo (lfS n seen) := ⟨n - 1 - lo (lfS n seen), by omega⟩
  have e1 := sRiG_skip (ad := ad) (nx := nx) (n := n) (seen := seen) (lo (lfS n seen)) (s + 1) 0 (fun x _ h2 => hs x (by omega))
  have e2 := sRiG_skip (ad := ad) (nx := nx) (n := n) (seen := sTrG ad nx n seen (lo (lfS n seen))) (lo (lfS n seen) + 1) s 0 (fun x _ h2 => by
    by_cases e : x = lo (lfS n seen)
    · rw [e]
      obtain ⟨k, ek⟩ : ∃ k, n = k + 1 := ⟨n - 1, by omega⟩
      have := sTrG_has (nx := nx) had (u := k) (seen := seen) hl.1
      rw [← ek] at this
      exact this
    · exact sTrG_sub _ _ _ (hs x (by omega)))
  rw [← es, Nat.zero_add] at e1
  rw [show s + (lo (lfS n seen) + 1) = n by omega, Nat.zero_add] at e2
  rw [e1, e2, sRiG_f hb]
theorem sTrG_dn {ad nx : Nat → Nat} {n seen : Nat} (hn : n ≤ 12) (had : ∀ a, a < n → (ad a).testBit a = true) (h : lfS n seen ≠ 0) : sUn (sTrG ad nx n seen (lo (lfS n seen))) n < sUn seen n := by
  have hl := lo_n hn (lfS_lt n seen) h
  have hb := (lfS_bit.mp hl.2.1).2
  obtain ⟨k, ek⟩ : ∃ k, n = k + 1 := ⟨n - 1, by omega⟩
  refine sUn_lt (v := lo (lfS n seen)) (fun v hv => sTrG_sub _ _ _ hv) hb ?_ n hl.1
  have := sTrG_has (nx := nx) had (u := k) (seen := seen) hl.1
  rw [← ek] at this
  exact this
theorem trace_is (nx : Nat → Nat) : ∀ (u seen a : Nat), sTrace nx u seen a = sTrG (fun a => 2 ^ a) nx u seen a
  | 0, _, _ => rfl
  | u + 1, seen, a => by
    unfold sTrace sTrG
    split
    · rfl
    · exact trace_is nx u _ _
theorem rings_is (nx : Nat → Nat) (n : Nat) : ∀ (s k seen : Nat), sRings nx n s k seen = sRiG (fun a => 2 ^ a) nx n s k seen
  | 0, _, _ => rfl
  | s + 1, k, seen => by
    unfold sRings sRiG
    split
    · exact rings_is nx n s _ _
    · rw [rings_is nx n s _ _, trace_is]
theorem sTrG_cg {ad ad' nx nx' : Nat → Nat} {n : Nat} (hx : ∀ a, a < n → nx a < n) (h1 : ∀ a, a < n → ad a = ad' a) (h2 : ∀ a, a < n → nx a = nx' a) : ∀ (u seen a : Nat), a < n → sTrG ad nx u seen a = sTrG ad' nx' u seen a
  | 0, _, _, _ => rfl
  | u + 1, seen, a, ha => by
    unfold sTrG
    split
    · rfl
    · rw [← h1 a ha, ← h2 a ha]
      exact sTrG_cg hx h1 h2 u _ _ (hx a ha)
theorem sRiG_cg {ad ad' nx nx' : Nat → Nat} {n : Nat} (hx : ∀ a, a < n → nx a < n) (h1 : ∀ a, a < n → ad a = ad' a) (h2 : ∀ a, a < n → nx a = nx' a) : ∀ (s k seen : Nat), s + k ≤ n → sRiG ad nx n s k seen = sRiG ad' nx' n s k seen
  | 0, _, _, _ => rfl
  | s + 1, k, seen, hk => by
    unfold sRiG
    split
    · exact sRiG_cg hx h1 h2 s _ _ (by omega)
    · rw [sTrG_cg hx h1 h2 _ _ _ (by omega), sRiG_cg hx h1 h2 s _ _ (by omega)]
/-- what holds of a finished row -/
def rOk (n : Nat) (may : Int → Int → Bool) (A : Nat) (r : Int → Int) : Prop := pIv n (sMk A r) ∧ crR n (sMk A r) ≤ 15 ∧ (∀ x : Nat, x < n → A.testBit x = true → 0 ≤ sMk A r (x : Int)) ∧ ∀ x : Int, 0 ≤ x → x < n → x < sMk A r x → may x (sMk A r x) = true
theorem sLay_ok {n A : Nat} {may : Int → Int → Bool} (hn : n ≤ 12) : ∀ (u : Nat) (mt : Int → Int) (S q : Nat), u + q = 6 → xI n A mt S q → (∀ x : Int, 0 ≤ x → x < n → x < sMk A mt x → may x (sMk A mt x) = true) → ∀ r ∈ sLay n may u mt, rOk n may A r ∧ ∀ x : Int, 0 ≤ x → x < n → 0 ≤ mt x → r x = mt x := by
  have fin : ∀ (mt : Int → Int) (S q : Nat), q ≤ 6 → xI n A mt S q → S = 0 → (∀ x : Int, 0 ≤ x → x < n → x < sMk A mt x → may x (sMk A mt x) = true) → rOk n may A mt := fun mt S q hq h h0 hm => ⟨h.2.2.2.1, by have := h.2.2.2.2.2.2.2; have := tri_le hq; omega, fun x hx hA => by
    rw [sMk_in (by omega) (by omega), Int.toNat_natCast, if_pos hA]
    rcases Int.lt_or_le (mt (x : Int)) 0 with g | g
    · have := (h.2.1 (x : Int) (by omega) (by omega)).mp g
      rw [h0, Nat.zero_testBit] at this
      cases this
    · exact g, hm⟩
  intro u
  induction u with
  | zero =>
    intro mt S q hu hX hm r hr
    rw [sLay_0] at hr
    split at hr
    · rename_i hf
      rw [List.mem_singleton] at hr
      subst hr
      have h0 : S = 0 := by
        rcases Nat.eq_zero_or_pos S with g | g
        · exact g
        · rw [xI_fst hn hX (by omega)] at hf; omega
      exact ⟨fin r S q (by omega) hX h0 hm, fun _ _ _ _ => rfl⟩
    · cases hr
  | succ u ih =>
    intro mt S q hu hX hm r hr
    by_cases h0 : S = 0
    · rw [sLay_one (xI_no hX h0), List.mem_singleton] at hr
      subst hr
      exact ⟨fin r S q (by omega) hX h0 hm, fun _ _ _ _ => rfl⟩
    · have hf := xI_fst hn hX h0
      have hl := lo_n hn hX.1 h0
      rw [sLay_s, if_neg (by omega), hf, Int.toNat_natCast] at hr
      obtain ⟨j, j1, j2, hj⟩ := sCat_mem hr
      by_cases hc : mt j < 0 ∧ may ((lo S : Nat) : Int) j = true
      · rw [if_pos hc] at hj
        obtain ⟨jn, rfl⟩ := Int.eq_ofNat_of_zero_le (show 0 ≤ j by omega)
        have hb : S.testBit jn = true := by
          have := (hX.2.1 (jn : Int) (by omega) (by omega)).mp hc.1
          rw [Int.toNat_natCast] at this
          exact this
        have hX1 := xI_up (j := jn) hn hX (by omega) h0 (by omega) hb
        have fi := xI_free hn hX hl.2.1
        have fj := xI_free hn hX hb
        have eM := sMk_up (A := A) (mt := mt) (i := ((lo S : Nat) : Int)) (k := (jn : Int)) (by omega) (by omega) (by omega) (by omega) (by rw [Int.toNat_natCast]; exact hX.2.2.1 _ hl.2.1) (by rw [Int.toNat_natCast]; exact hX.2.2.1 _ hb)
        have := ih _ _ _ (by omega) hX1 (fun x x0 x1 x2 => by
          rw [← eM] at x2 ⊢
          by_cases e1 : x = (jn : Int)
          · have ej : sUp (sMk A mt) ((lo S : Nat) : Int) (jn : Int) x = ((lo S : Nat) : Int) := by unfold sUp; rw [if_pos e1]
            omega
          · by_cases e2 : x = ((lo S : Nat) : Int)
            · have ej : sUp (sMk A mt) ((lo S : Nat) : Int) (jn : Int) x = (jn : Int) := by unfold sUp; rw [if_neg e1, if_pos e2]
              rw [ej, e2]
              exact hc.2
            · have er : sUp (sMk A mt) ((lo S : Nat) : Int) (jn : Int) x = sMk A mt x := by unfold sUp; rw [if_neg e1, if_neg e2]
              rw [er] at x2 ⊢
              exact hm x x0 x1 x2) r hj
        refine ⟨this.1, fun x x0 x1 x2 => ?_⟩
        have er : sUp mt ((lo S : Nat) : Int) (jn : Int) x = mt x := by
          unfold sUp
          rw [if_neg (fun e => by rw [e] at x2; omega), if_neg (fun e => by rw [e] at x2; omega)]
        rw [this.2 x x0 x1 (by rw [er]; exact x2), er]
      · rw [if_neg hc] at hj
        cases hj
/-- rows rise -/
def rowN (n A : Nat) (r : Int → Int) : Nat := pkN (dg (sMk A r) n) 12
def rises (n A : Nat) (L : List (Int → Int)) : Prop := L.Pairwise (fun r s => rowN n A r < rowN n A s)
theorem sCat_pw {α : Type} {R : α → α → Prop} {g : Int → List α} : ∀ {s : Nat} {k : Int}, (∀ j, k ≤ j → j < k + s → (g j).Pairwise R) → (∀ i j, k ≤ i → i < j → j < k + s → ∀ x ∈ g i, ∀ y ∈ g j, R x y) → (sCat g s k).Pairwise R
  | 0, _, _, _ => List.Pairwise.nil
  | s + 1, k, h1, h2 => by
    rw [sCat_s, List.pairwise_append]
    refine ⟨h1 k (by omega) (by omega), sCat_pw (fun j a b => h1 j (by omega) (by omega)) (fun i j a b c => h2 i j (by omega) b (by omega)), fun x hx y hy => ?_⟩
    obtain ⟨j, j1, j2, hj⟩ := sCat_mem hy
    exact h2 k j (by omega) (by omega) (by omega) x hx y hj
theorem sLay_rise {n A : Nat} {may : Int → Int → Bool} (hn : n ≤ 12) : ∀ (u : Nat) (mt : Int → Int) (S q : Nat), u + q = 6 → xI n A mt S q → (∀ x : Int, 0 ≤ x → x < n → x < sMk A mt x → may x (sMk A mt x) = true) → rises n A (sLay n may u mt) := by
  intro u
  induction u with
  | zero =>
    intro mt S q hu hX hm
    rw [sLay_0]
    split
    · exact List.pairwise_singleton _ _
    · exact List.Pairwise.nil
  | succ u ih =>
    intro mt S q hu hX hm
    by_cases h0 : S = 0
    · rw [sLay_one (xI_no hX h0)]
      exact List.pairwise_singleton _ _
    · have hf := xI_fst hn hX h0
      have hl := lo_n hn hX.1 h0
      rw [sLay_s, if_neg (by omega), hf, Int.toNat_natCast]
      have prep : ∀ j : Int, ((lo S : Nat) : Int) + 1 ≤ j → j < ((lo S : Nat) : Int) + 1 + ((n - 1 - lo S : Nat) : Int) → mt j < 0 ∧ may ((lo S : Nat) : Int) j = true → xI n A (sUp mt ((lo S : Nat) : Int) j) (rmv S (lo S) j.toNat) (q + 1) ∧ (∀ x : Int, 0 ≤ x → x < n → x < sMk A (sUp mt ((lo S : Nat) : Int) j) x → may x (sMk A (sUp mt ((lo S : Nat) : Int) j) x) = true) := by
        intro j j1 j2 hc
        obtain ⟨jn, rfl⟩ := Int.eq_ofNat_of_zero_le (show 0 ≤ j by omega)
        have hb : S.testBit jn = true := by
          have := (hX.2.1 (jn : Int) (by omega) (by omega)).mp hc.1
          rw [Int.toNat_natCast] at this
          exact this
        have hX1 := xI_up (j := jn) hn hX (by omega) h0 (by omega) hb
        have eM := sMk_up (A := A) (mt := mt) (i := ((lo S : Nat) : Int)) (k := (jn : Int)) (by omega) (by omega) (by omega) (by omega) (by rw [Int.toNat_natCast]; exact hX.2.2.1 _ hl.2.1) (by rw [Int.toNat_natCast]; exact hX.2.2.1 _ hb)
        rw [Int.toNat_natCast]
        refine ⟨hX1, fun x x0 x1 x2 => ?_⟩
        rw [← eM] at x2 ⊢
        by_cases e1 : x = (jn : Int)
        · have ej : sUp (sMk A mt) ((lo S : Nat) : Int) (jn : Int) x = ((lo S : Nat) : Int) := by unfold sUp; rw [if_pos e1]
          omega
        · by_cases e2 : x = ((lo S : Nat) : Int)
          · have ej : sUp (sMk A mt) ((lo S : Nat) : Int) (jn : Int) x = (jn : Int) := by unfold sUp; rw [if_neg e1, if_pos e2]
            rw [ej, e2]
            exact hc.2
          · have er : sUp (sMk A mt) ((lo S : Nat) : Int) (jn : Int) x = sMk A mt x := by unfold sUp; rw [if_neg e1, if_neg e2]
            rw [er] at x2 ⊢
            exact hm x x0 x1 x2
      refine sCat_pw (fun j j1 j2 => ?_) (fun i j i1 ij j2 r hr r' hr' => ?_)
      · by_cases hc : mt j < 0 ∧ may ((lo S : Nat) : Int) j = true
        · rw [if_pos hc]
          exact ih _ _ _ (by omega) (prep j j1 j2 hc).1 (prep j j1 j2 hc).2
        · rw [if_neg hc]
          exact List.Pairwise.nil
      · by_cases hc : mt i < 0 ∧ may ((lo S : Nat) : Int) i = true
        · by_cases hd : mt j < 0 ∧ may ((lo S : Nat) : Int) j = true
          · rw [if_pos hc] at hr
            rw [if_pos hd] at hr'
            have a := prep i i1 (by omega) hc
            have b := prep j (by omega) j2 hd
            have ra := sLay_ok hn u _ _ _ (by omega) a.1 a.2 r hr
            have rb := sLay_ok hn u _ _ _ (by omega) b.1 b.2 r' hr'
            have hA := hX.2.2.1 _ hl.2.1
            have vi : ∀ k : Int, ((lo S : Nat) : Int) < k → sUp mt ((lo S : Nat) : Int) k ((lo S : Nat) : Int) = k := fun k hk => by unfold sUp; rw [if_neg (by omega), if_pos rfl]
            have va : sMk A r ((lo S : Nat) : Int) = i := by
              rw [sMk_in (by omega) (by omega), Int.toNat_natCast, if_pos hA, ra.2 _ (by omega) (by omega) (by rw [vi i (by omega)]; omega), vi i (by omega)]
            have vb : sMk A r' ((lo S : Nat) : Int) = j := by
              rw [sMk_in (by omega) (by omega), Int.toNat_natCast, if_pos hA, rb.2 _ (by omega) (by omega) (by rw [vi j (by omega)]; omega), vi j (by omega)]
            unfold rowN
            refine pkN_less (x := lo S) (fun y hy => ?_) ?_ (by omega) (dg_16 ra.1.1 hn)
            · have hy2 : 0 ≤ mt (y : Int) := by
                rcases Int.lt_or_le (mt (y : Int)) 0 with g | g
                · have := (hX.2.1 (y : Int) (by omega) (by omega)).mp g
                  rw [Int.toNat_natCast, hl.2.2 y hy] at this
                  cases this
                · exact g
              have up : ∀ k : Int, ((lo S : Nat) : Int) < k → sUp mt ((lo S : Nat) : Int) k (y : Int) = mt (y : Int) := fun k hk => by unfold sUp; rw [if_neg (by omega), if_neg (by omega)]
              have e : sMk A r (y : Int) = sMk A r' (y : Int) := by
                rw [sMk_in (by omega) (by omega), sMk_in (by omega) (by omega), ra.2 _ (by omega) (by omega) (by rw [up i (by omega)]; exact hy2), rb.2 _ (by omega) (by omega) (by rw [up j (by omega)]; exact hy2), up i (by omega), up j (by omega)]
              unfold dg
              rw [e]
            · unfold dg
              rw [va, vb, if_pos (by omega), if_pos (by omega)]
              omega
          · rw [if_neg hd] at hr'
            cases hr'
        · rw [if_neg hc] at hr
          cases hr
theorem tab_ok {n A : Nat} {may : Int → Int → Bool} (hn : n ≤ 12) (hA : A < 2 ^ n) : (∀ r ∈ sLay n may 6 (mtA A), rOk n may A r) ∧ rises n A (sLay n may 6 (mtA A)) := by
  have h := (xI_0 hn hA).1
  have hm : ∀ x : Int, 0 ≤ x → x < n → x < sMk A (mtA A) x → may x (sMk A (mtA A) x) = true := fun x x0 x1 x2 => by
    rw [sMk_mtA, if_pos (by omega)] at x2
    omega
  exact ⟨fun r hr => (sLay_ok hn 6 _ _ 0 rfl h hm r hr).1, sLay_rise hn 6 _ _ 0 rfl h hm⟩
theorem sLay_ln {n A : Nat} {may : Int → Int → Bool} (hn : n ≤ 12) : (sLay n may 6 (mtA A)).length ≤ 10395 := sLay_le hn may 6 _
