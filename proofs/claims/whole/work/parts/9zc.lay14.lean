/-! crossings and turns, told line by line -/
theorem zsum_add (f g : Int → Int) : ∀ (j : Nat) (k : Int), zsum (fun i => f i + g i) j k = zsum f j k + zsum g j k
  | 0, _ => rfl
  | j + 1, k => by rw [zsum_s, zsum_s, zsum_s, zsum_add f g j (k + 1)]; omega
theorem zsum_swap (F : Int → Int → Int) (a b : Nat) (l : Int) : ∀ (k : Int), zsum (fun i => zsum (fun j => F i j) b l) a k = zsum (fun j => zsum (fun i => F i j) a k) b l := by
  induction a with
  | zero => intro k; rw [zsum_0]; exact (zsum_z (fun i _ _ => rfl)).symm
  | succ a ih =>
    intro k
    rw [zsum_s, ih (k + 1), ← zsum_add]
    exact zsum_congr (fun j _ _ => by rw [zsum_s])
theorem zsum_pick {G : Int → Int} {n : Nat} {x : Int} (h0 : 0 ≤ x) (h1 : x < n) : zsum (fun v => zb (v = x) * G v) n 0 = G x := by
  have e : zsum (fun v => zb (v = x) * G v) n 0 = zsum (fun v => zb (v = x) * G x) n 0 := zsum_congr (fun i _ _ => by
    by_cases h : i = x
    · rw [h]
    · rw [zb_f h, Int.zero_mul, Int.zero_mul])
  rw [e, zsum_mul, zsum_ind h0 (by omega), Int.one_mul]
/-- a change of names that is its own way back -/
theorem zsum_inv {σ G : Int → Int} {n : Nat} (h : ∀ x : Int, 0 ≤ x → x < n → (0 ≤ σ x ∧ σ x < n) ∧ σ (σ x) = x) : zsum (fun i => G (σ i)) n 0 = zsum G n 0 := by
  have e1 : zsum (fun i => G (σ i)) n 0 = zsum (fun i => zsum (fun v => zb (v = σ i) * G v) n 0) n 0 := zsum_congr (fun i q0 q1 => (zsum_pick (h i q0 (by omega)).1.1 (h i q0 (by omega)).1.2).symm)
  rw [e1, zsum_swap]
  refine zsum_congr (fun v q0 q1 => ?_)
  have hv := h v q0 (by omega)
  have e2 : zsum (fun i => zb (v = σ i) * G v) n 0 = zsum (fun i => zb (i = σ v) * G v) n 0 := zsum_congr (fun i i0 i1 => by
    have hi := h i i0 (by omega)
    by_cases e : i = σ v
    · rw [zb_t e, zb_t (by rw [e, hv.2])]
    · rw [zb_f e, zb_f (fun g => e (by rw [g, hi.2]))])
  rw [e2, zsum_mul, zsum_ind hv.1.1 (by omega), Int.one_mul]
/-- pairs as far as they go, below n -/
def pIv (n : Nat) (mt : Int → Int) : Prop := ∀ x : Int, 0 ≤ x → x < n → 0 ≤ mt x → mt x < n ∧ mt x ≠ x ∧ mt (mt x) = x
theorem pIv_re {n : Nat} {mt G : Int → Int} (h : pIv n mt) : zsum (fun i => G (if mt i < 0 then i else mt i)) n 0 = zsum G n 0 := by
  refine zsum_inv (σ := fun i => if mt i < 0 then i else mt i) (fun x q0 q1 => ?_)
  by_cases e : mt x < 0
  · simp only [if_pos e]
    exact ⟨⟨q0, q1⟩, trivial⟩
  · have hx := h x q0 q1 (by omega)
    simp only [if_neg e]
    rw [hx.2.2, if_neg (by omega)]
    exact ⟨⟨by omega, hx.1⟩, rfl⟩
def crT (mt : Int → Int) (i r : Int) : Int := zb (0 ≤ mt r ∧ mt r < i ∧ i < r ∧ r < mt i)
def crR (n : Nat) (mt : Int → Int) : Int := zsum (fun i => zsum (fun r => crT mt i r) n 0) n 0
def trT (od : Int → Bool) (mt : Int → Int) (i r : Int) : Int := zb (0 ≤ mt r ∧ od r = true ∧ mt r < i ∧ i < r ∧ r < mt i)
def trR (n : Nat) (od br : Int → Bool) (mt : Int → Int) : Int := zsum (fun i => if i < mt i ∧ od i = true then zb (br i = true) + zsum (fun r => trT od mt i r) n 0 else 0) n 0
theorem tail_full {F : Int → Int} {n : Nat} {i : Int} (h0 : 0 ≤ i) (h1 : i < n) (hz : ∀ j, 0 ≤ j → j ≤ i → F j = 0) : zsum F (n - 1 - i.toNat) (i + 1) = zsum F n 0 := by
  have e : n = (i.toNat + 1) + (n - 1 - i.toNat) := by omega
  have e2 : zsum F n 0 = zsum F ((i.toNat + 1) + (n - 1 - i.toNat)) 0 := congrArg (fun x => zsum F x 0) e
  rw [e2, zsum_app F (i.toNat + 1), zsum_z (j := i.toNat + 1) (fun j q0 q1 => hz j q0 (by omega)), Int.zero_add, show (0 : Int) + ((i.toNat + 1 : Nat) : Int) = i + 1 by omega]
theorem cross_is {n : Nat} {mt : Int → Int} (h : pIv n mt) : sCross n mt = crR n mt := by
  have e1 : sCross n mt = zsum (fun i => zsum (fun j => zb (i < j ∧ j < mt i ∧ mt i < mt j)) n 0) n 0 := by
    unfold sCross
    refine zsum_congr (fun i q0 q1 => ?_)
    rw [← tail_full (F := fun j => zb (i < j ∧ j < mt i ∧ mt i < mt j)) q0 (by omega) (fun j _ hj => zb_f (by omega))]
    refine zsum_congr (fun j _ _ => zb_congr ?_)
    unfold sX
    rw [decide_eq_true_eq]
    omega
  rw [e1, zsum_swap]
  unfold crR
  refine zsum_congr (fun j q0 q1 => ?_)
  rw [← pIv_re (G := fun r => crT mt j r) h]
  refine zsum_congr (fun i i0 i1 => ?_)
  unfold crT
  by_cases e : mt i < 0
  · rw [if_pos e, zb_f (by omega), zb_f (by omega)]
  · have hi := h i i0 (by omega) (by omega)
    rw [if_neg e, hi.2.2]
    exact zb_congr (by omega)
theorem turn_is {n : Nat} {od br : Int → Bool} {mt : Int → Int} (h : pIv n mt) (ho : ∀ x : Int, 0 ≤ x → x < n → 0 ≤ mt x → od x = od (mt x)) : sTurn n od br mt = trR n od br mt := by
  have s1 : sTurn n od br mt = zsum (fun i => (if i < mt i ∧ od i = true then zb (br i = true) else 0)) n 0 + zsum (fun i => zsum (fun j => zb ((od i = true ∧ od j = true) ∧ i < j ∧ j < mt i ∧ mt i < mt j)) n 0) n 0 := by
    rw [← zsum_add]
    unfold sTurn
    refine zsum_congr (fun i q0 q1 => ?_)
    by_cases hc : i ≤ mt i ∧ od i = true
    · have hi := h i q0 (by omega) (by omega)
      rw [if_pos hc, if_pos (show i < mt i ∧ od i = true from ⟨by omega, hc.2⟩)]
      congr 1
      rw [← tail_full (F := fun j => zb ((od i = true ∧ od j = true) ∧ i < j ∧ j < mt i ∧ mt i < mt j)) q0 (by omega) (fun j _ hj => zb_f (by omega))]
      refine zsum_congr (fun j _ _ => zb_congr ?_)
      unfold sX
      rw [decide_eq_true_eq]
      constructor
      · rintro ⟨a, b, c⟩; exact ⟨⟨hc.2, b⟩, c⟩
      · rintro ⟨⟨a, b⟩, c⟩; exact ⟨by omega, b, c⟩
    · rw [if_neg hc, if_neg (fun g => hc ⟨by omega, g.2⟩), zsum_z (fun j _ _ => zb_f (fun g => hc ⟨by omega, g.1.1⟩))]
      rfl
  have s2 : trR n od br mt = zsum (fun i => (if i < mt i ∧ od i = true then zb (br i = true) else 0)) n 0 + zsum (fun i => zsum (fun r => zb (od i = true ∧ (0 ≤ mt r ∧ od r = true ∧ mt r < i ∧ i < r ∧ r < mt i))) n 0) n 0 := by
    rw [← zsum_add]
    unfold trR
    refine zsum_congr (fun i q0 q1 => ?_)
    by_cases hc : i < mt i ∧ od i = true
    · rw [if_pos hc, if_pos hc]
      congr 1
      refine zsum_congr (fun r _ _ => zb_congr ?_)
      exact ⟨fun g => ⟨hc.2, g⟩, fun g => g.2⟩
    · rw [if_neg hc, if_neg hc, zsum_z (fun r _ _ => zb_f (fun g => hc ⟨by omega, g.1⟩))]
      rfl
  rw [s1, s2]
  congr 1
  rw [zsum_swap]
  refine zsum_congr (fun j q0 q1 => ?_)
  rw [← pIv_re (G := fun r => zb (od j = true ∧ (0 ≤ mt r ∧ od r = true ∧ mt r < j ∧ j < r ∧ r < mt j))) h]
  refine zsum_congr (fun i i0 i1 => ?_)
  show zb _ = zb (od j = true ∧ (0 ≤ mt (if mt i < 0 then i else mt i) ∧ od (if mt i < 0 then i else mt i) = true ∧ mt (if mt i < 0 then i else mt i) < j ∧ j < (if mt i < 0 then i else mt i) ∧ (if mt i < 0 then i else mt i) < mt j))
  by_cases e : mt i < 0
  · rw [if_pos e, zb_f (by omega), zb_f (by omega)]
  · have hi := h i i0 (by omega) (by omega)
    have hoi := ho i i0 (by omega) (by omega)
    rw [if_neg e, hi.2.2, ← hoi]
    refine zb_congr ?_
    constructor
    · rintro ⟨⟨a, b⟩, c, d, f⟩; exact ⟨b, i0, a, c, d, f⟩
    · rintro ⟨a, b, c, d, f, g⟩; exact ⟨⟨c, a⟩, d, f, g⟩
/-- a line more -/
theorem crR_up {n : Nat} {mt : Int → Int} {i j : Int} (h : pIv n mt) (hi : 0 ≤ i) (hij : i < j) (hj : j < n) (h1 : mt i < 0) (h2 : mt j < 0) (hL : ∀ y : Int, 0 ≤ y → y < n → y < mt y → y < i) : crR n (sUp mt i j) = crR n mt + zsum (fun r => zb (0 ≤ mt r ∧ i < r ∧ r < j)) n 0 := by
  have key : ∀ x : Int, 0 ≤ x → x < n → zsum (fun r => crT (sUp mt i j) x r) n 0 = zsum (fun r => crT mt x r) n 0 + zb (x = i) * zsum (fun r => zb (0 ≤ mt r ∧ i < r ∧ r < j)) n 0 := by
    intro x x0 x1
    by_cases ex : x = i
    · subst ex
      rw [zb_t rfl, Int.one_mul, zsum_z (f := fun r => crT mt x r) (fun r _ _ => zb_f (by omega)), Int.zero_add]
      refine zsum_congr (fun r r0 r1 => ?_)
      unfold crT
      refine zb_congr ?_
      have ei : sUp mt x j x = j := by unfold sUp; rw [if_neg (by omega), if_pos rfl]
      rw [ei]
      by_cases e1 : r = j
      · omega
      · by_cases e2 : r = x
        · omega
        · have er : sUp mt x j r = mt r := by unfold sUp; rw [if_neg e1, if_neg e2]
          rw [er]
          constructor
          · intro g; omega
          · rintro ⟨a, b, c⟩
            have hr := h r r0 (by omega) a
            refine ⟨a, ?_, b, c⟩
            rcases Int.lt_trichotomy r (mt r) with g | g | g
            · have := hL r r0 (by omega) g; omega
            · omega
            · have := hL (mt r) a hr.1 (by rw [hr.2.2]; exact g); omega
    · rw [zb_f ex, Int.zero_mul, Int.add_zero]
      refine zsum_congr (fun r r0 r1 => ?_)
      unfold crT
      refine zb_congr ?_
      by_cases exj : x = j
      · have ev : sUp mt i j x = i := by unfold sUp; rw [if_pos exj]
        rw [ev]
        subst exj
        omega
      · have ev : sUp mt i j x = mt x := by unfold sUp; rw [if_neg exj, if_neg ex]
        rw [ev]
        by_cases e1 : r = j
        · have er : sUp mt i j r = i := by unfold sUp; rw [if_pos e1]
          rw [er]
          subst e1
          constructor
          · intro g; have := hL x x0 x1 (by omega); omega
          · intro g; omega
        · by_cases e2 : r = i
          · have er : sUp mt i j r = j := by unfold sUp; rw [if_neg e1, if_pos e2]
            rw [er]
            subst e2
            omega
          · have er : sUp mt i j r = mt r := by unfold sUp; rw [if_neg e1, if_neg e2]
            rw [er]
  unfold crR
  rw [zsum_congr (fun x q0 q1 => key x q0 (by omega)), zsum_add, zsum_mul, zsum_ind hi (by omega), Int.one_mul]
theorem trR_up {n : Nat} {od br : Int → Bool} {mt : Int → Int} {i j : Int} (h : pIv n mt) (hi : 0 ≤ i) (hij : i < j) (hj : j < n) (h1 : mt i < 0) (h2 : mt j < 0) (hL : ∀ y : Int, 0 ≤ y → y < n → y < mt y → y < i) : trR n od br (sUp mt i j) = trR n od br mt + (if od i = true then zb (br i = true) + zsum (fun r => zb ((0 ≤ mt r ∧ i < r ∧ r < j) ∧ od r = true)) n 0 else 0) := by
  have key : ∀ x : Int, 0 ≤ x → x < n → (if x < sUp mt i j x ∧ od x = true then zb (br x = true) + zsum (fun r => trT od (sUp mt i j) x r) n 0 else 0) = (if x < mt x ∧ od x = true then zb (br x = true) + zsum (fun r => trT od mt x r) n 0 else 0) + zb (x = i) * (if od i = true then zb (br i = true) + zsum (fun r => zb ((0 ≤ mt r ∧ i < r ∧ r < j) ∧ od r = true)) n 0 else 0) := by
    intro x x0 x1
    by_cases ex : x = i
    · subst ex
      have ei : sUp mt x j x = j := by unfold sUp; rw [if_neg (by omega), if_pos rfl]
      rw [zb_t rfl, Int.one_mul, if_neg (show ¬ (x < mt x ∧ od x = true) by omega), Int.zero_add, ei]
      by_cases ho : od x = true
      · rw [if_pos ⟨hij, ho⟩, if_pos ho]
        congr 1
        refine zsum_congr (fun r r0 r1 => ?_)
        unfold trT
        refine zb_congr ?_
        rw [ei]
        by_cases e1 : r = j
        · omega
        · by_cases e2 : r = x
          · omega
          · have er : sUp mt x j r = mt r := by unfold sUp; rw [if_neg e1, if_neg e2]
            rw [er]
            constructor
            · rintro ⟨a, b, c, d, e⟩; exact ⟨⟨a, d, e⟩, b⟩
            · rintro ⟨⟨a, b, c⟩, f⟩
              have hr := h r r0 (by omega) a
              refine ⟨a, f, ?_, b, c⟩
              rcases Int.lt_trichotomy r (mt r) with g | g | g
              · have := hL r r0 (by omega) g; omega
              · omega
              · have := hL (mt r) a hr.1 (by rw [hr.2.2]; exact g); omega
      · rw [if_neg (fun g => ho g.2), if_neg ho]
    · rw [zb_f ex, Int.zero_mul, Int.add_zero]
      by_cases exj : x = j
      · have ev : sUp mt i j x = i := by unfold sUp; rw [if_pos exj]
        rw [ev, if_neg (by omega), if_neg (by subst exj; omega)]
      · have ev : sUp mt i j x = mt x := by unfold sUp; rw [if_neg exj, if_neg ex]
        rw [ev]
        by_cases hc : x < mt x ∧ od x = true
        · rw [if_pos hc, if_pos hc]
          congr 1
          refine zsum_congr (fun r r0 r1 => ?_)
          unfold trT
          refine zb_congr ?_
          rw [ev]
          by_cases e1 : r = j
          · have er : sUp mt i j r = i := by unfold sUp; rw [if_pos e1]
            rw [er]
            subst e1
            constructor
            · intro g; have := hL x x0 x1 (by omega); omega
            · intro g; omega
          · by_cases e2 : r = i
            · have er : sUp mt i j r = j := by unfold sUp; rw [if_neg e1, if_pos e2]
              rw [er]
              subst e2
              omega
            · have er : sUp mt i j r = mt r := by unfold sUp; rw [if_neg e1, if_neg e2]
              rw [er]
        · rw [if_neg hc, if_neg hc]
  unfold trR
  rw [zsum_congr (fun x q0 q1 => key x q0 (by omega)), zsum_add, zsum_mul, zsum_ind hi (by omega), Int.one_mul]
/-- between two letters there are no more ends than lines -/
theorem cr_le {n : Nat} {mt : Int → Int} {i j : Int} (h : pIv n mt) (hL : ∀ y : Int, 0 ≤ y → y < n → y < mt y → y < i) : zsum (fun r => zb (0 ≤ mt r ∧ i < r ∧ r < j)) n 0 ≤ sOp mt n := by
  have e : sOp mt n = zsum (fun r => zb (0 ≤ mt r ∧ mt r < r)) n 0 := by
    unfold sOp
    rw [← pIv_re (G := fun i => zb (i < mt i)) h]
    refine zsum_congr (fun r r0 r1 => ?_)
    show zb ((if mt r < 0 then r else mt r) < mt (if mt r < 0 then r else mt r)) = _
    by_cases e : mt r < 0
    · rw [if_pos e, zb_f (by omega), zb_f (by omega)]
    · rw [if_neg e, (h r r0 (by omega) (by omega)).2.2]
      exact zb_congr (by omega)
  rw [e]
  refine zsum_le (fun r r0 r1 => ?_)
  by_cases hc : 0 ≤ mt r ∧ i < r ∧ r < j
  · rw [zb_t hc]
    have hr := h r r0 (by omega) hc.1
    rw [zb_t ⟨hc.1, by
      rcases Int.lt_trichotomy r (mt r) with g | g | g
      · have := hL r r0 (by omega) g; omega
      · omega
      · exact g⟩]
    exact Int.le_refl _
  · rw [zb_f hc]
    have := zb01 (0 ≤ mt r ∧ mt r < r)
    omega
theorem sPop_sum (S : Nat) : ∀ k : Nat, ((sPop k S : Nat) : Int) = zsum (fun r => zb (S.testBit r.toNat = true)) k 0
  | 0 => rfl
  | k + 1 => by
    show ((sPop k S + (if S.testBit k then 1 else 0) : Nat) : Int) = _
    rw [zsum_app, ← sPop_sum S k, zsum_s, zsum_0, show (0 + (k : Int)).toNat = k by omega]
    cases S.testBit k <;> simp [zb]
