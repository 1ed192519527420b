/-! rows that agree below n -/
def agF (n : Nat) (r s : Int → Int) : Prop := ∀ x : Int, 0 ≤ x → x < n → r x = s x
def agL (n : Nat) : zLr → zLr → Prop
  | [], [] => True
  | a :: l, b :: k => agF n a b ∧ agL n l k
  | _, _ => False
theorem agL_app {n : Nat} : ∀ {a b c d : zLr}, agL n a b → agL n c d → agL n (a ++ c) (b ++ d)
  | [], [], _, _, _, h => h
  | _ :: _, _ :: _, _, _, g, h => ⟨g.1, agL_app g.2 h⟩
  | [], _ :: _, _, _, g, _ => False.elim g
  | _ :: _, [], _, _, g, _ => False.elim g
theorem agL_cat {n : Nat} {f g : Int → zLr} : ∀ {s : Nat} {k : Int}, (∀ j, k ≤ j → j < k + s → agL n (f j) (g j)) → agL n (sCat f s k) (sCat g s k)
  | 0, _, _ => trivial
  | s + 1, k, h => by
    rw [sCat_s, sCat_s]
    exact agL_app (h k (by omega) (by omega)) (agL_cat (fun j a b => h j (by omega) (by omega)))
theorem sLay_ag {n : Nat} {may : Int → Int → Bool} : ∀ (u : Nat) (mt ms : Int → Int), agF n mt ms → agL n (sLay n may u mt) (sLay n may u ms)
  | 0, mt, ms, h => by
    rw [sLay_0, sLay_0, sFst_congr (mt' := ms) (fun i q0 q1 => by rw [h i q0 q1])]
    split
    · exact ⟨h, trivial⟩
    · trivial
  | u + 1, mt, ms, h => by
    rw [sLay_s, sLay_s, sFst_congr (mt' := ms) (fun i q0 q1 => by rw [h i q0 q1])]
    split
    · exact ⟨h, trivial⟩
    · rename_i hf
      have hl := sFst_lt hf
      refine agL_cat (fun j j0 j1 => ?_)
      rw [h j (by omega) (by omega)]
      split
      · refine sLay_ag u _ _ (fun x x0 x1 => ?_)
        unfold sUp
        rw [h x x0 x1]
      · trivial
theorem agL_len {n : Nat} : ∀ {a b : zLr}, agL n a b → a.length = b.length
  | [], [], _ => rfl
  | _ :: _, _ :: _, h => by rw [List.length_cons, List.length_cons, agL_len h.2]
  | [], _ :: _, h => False.elim h
  | _ :: _, [], h => False.elim h
theorem agL_get {n : Nat} : ∀ {a b : zLr}, agL n a b → ∀ {t : Nat} {s : Int → Int}, b[t]? = some s → ∃ r, a[t]? = some r ∧ agF n r s
  | [], [], _, t, s, h => by cases t <;> cases h
  | x :: _, _ :: _, g, 0, s, h => by
    cases h
    exact ⟨x, rfl, g.1⟩
  | _ :: _, _ :: _, g, t + 1, s, h => agL_get g.2 (t := t) h
  | [], _ :: _, g, _, _, _ => False.elim g
  | _ :: _, [], g, _, _, _ => False.elim g
theorem agL_mem {n : Nat} {a b : zLr} (g : agL n a b) {s : Int → Int} (h : s ∈ b) : ∃ r ∈ a, agF n r s := by
  obtain ⟨t, ht⟩ := List.mem_iff_getElem?.mp h
  obtain ⟨r, h1, h2⟩ := agL_get g ht
  exact ⟨r, List.mem_of_getElem? h1, h2⟩
theorem agL_lS {n : Nat} {f g : (Int → Int) → Int} (h : ∀ r s, agF n r s → f r = g s) : ∀ {a b : zLr}, agL n a b → lS f a = lS g b
  | [], [], _ => rfl
  | x :: l, y :: k, e => by
    show f x + lS f l = g y + lS g k
    rw [h x y e.1, agL_lS h e.2]
  | [], _ :: _, e => False.elim e
  | _ :: _, [], e => False.elim e
/-- all letters -/
def fA (n : Nat) : Nat := 2 ^ n - 1
theorem fA_bit {n x : Nat} : (fA n).testBit x = decide (x < n) := by unfold fA; rw [Nat.testBit_two_pow_sub_one]
theorem fA_lt (n : Nat) : fA n < 2 ^ n := by unfold fA; have := Nat.two_pow_pos n; omega
theorem sMk_ag {n : Nat} {r s : Int → Int} (h : agF n r s) : sMk (fA n) r = sMk (fA n) s := by
  funext x
  unfold sMk
  by_cases a : 0 ≤ x ∧ x < 12
  · rw [if_pos a, if_pos a, fA_bit]
    by_cases b : x.toNat < n
    · rw [decide_eq_true b, if_pos rfl, if_pos rfl, h x a.1 (by omega)]
    · rw [decide_eq_false b, if_neg (by decide), if_neg (by decide)]
  · rw [if_neg a, if_neg a]
theorem sMk_fA {n : Nat} (hn : n ≤ 12) (r : Int → Int) : agF n (sMk (fA n) r) r := fun x x0 x1 => by
  rw [sMk_in x0 (by omega), fA_bit, decide_eq_true (by omega), if_pos rfl]
theorem tab_ag {n : Nat} {may : Int → Int → Bool} (hn : n ≤ 12) : agL n (sLay n may 6 (mtA (fA n))) (sLay n may 6 mt0) := sLay_ag 6 _ _ (fun x x0 x1 => by
  unfold mtA
  rw [fA_bit, decide_eq_true (by omega), if_pos rfl]
  unfold mt0
  rw [if_pos (by omega)])
theorem pTb_ag {m : zM} {p a : Int} {n : Nat} {od br : Int → Bool} {L K : zLr} {ρ : Int} (g : agL n L K) (h : pTb m p a n od br (fA n) L ρ) : pTb m p a n od br (fA n) K ρ := by
  obtain ⟨h1, h2, h3, h4, h5, h6, h7⟩ := h
  refine ⟨h1, h2, by rw [h3, agL_len g], h4, h5, h6, fun t s ht => ?_⟩
  obtain ⟨r, r1, r2⟩ := agL_get g ht
  have := h7 t r r1
  rw [sMk_ag r2] at this
  exact this
theorem rOk_ag {n : Nat} {may : Int → Int → Bool} {L K : zLr} (g : agL n L K) (h : ∀ r ∈ L, rOk n may (fA n) r) : ∀ s ∈ K, rOk n may (fA n) s := fun s hs => by
  obtain ⟨r, r1, r2⟩ := agL_mem g hs
  have := h r r1
  unfold rOk at *
  rw [sMk_ag r2] at this
  exact this
theorem cross_cg {n : Nat} {r s : Int → Int} (h : agF n r s) : sCross n r = sCross n s := by
  unfold sCross
  refine zsum_congr (fun i i0 i1 => zsum_congr (fun j j0 j1 => ?_))
  unfold sX
  rw [h i i0 (by omega), h j (by omega) (by omega)]
theorem turn_cg {n : Nat} {od br : Int → Bool} {r s : Int → Int} (h : agF n r s) : sTurn n od br r = sTurn n od br s := by
  unfold sTurn
  refine zsum_congr (fun i i0 i1 => ?_)
  rw [h i i0 (by omega)]
  split
  · congr 1
    refine zsum_congr (fun j j0 j1 => ?_)
    unfold sX
    rw [h i i0 (by omega), h j (by omega) (by omega)]
  · rfl
theorem rounds_cg {n : Nat} {r s : Int → Int} (h : agF n r s) : sRounds n r = sRounds n s := by
  unfold sRounds
  rw [rings_is, rings_is]
  congr 1
  rcases Nat.eq_zero_or_pos n with z | z
  · rw [z]; rfl
  · refine sRiG_cg (fun x hx => ?_) (fun _ _ => rfl) (fun x hx => ?_) n 0 0 (by omega)
    · unfold sNx
      have h1 := Int.emod_lt_of_pos (r (x : Int) + 1) (show (0 : Int) < (n : Int) by omega)
      have h2 := Int.emod_nonneg (r (x : Int) + 1) (show (n : Int) ≠ 0 by omega)
      omega
    · unfold sNx
      rw [h (x : Int) (by omega) (by omega)]
theorem sCL_cg {n : Nat} {code : Int → Int → Int} {r s : Int → Int} (h : agF n r s) : sCL n code r n 0 = sCL n code s n 0 := by
  unfold sCL
  exact sCat_congr (fun i i0 i1 => by rw [h i i0 (by omega)])
/-- what the table tells of a row -/
theorem row_cr {n : Nat} {may : Int → Int → Bool} {r : Int → Int} (hn : n ≤ 12) (h : rOk n may (fA n) r) : crR n (sMk (fA n) r) = sCross n r := by
  rw [← cross_is h.1]
  exact cross_cg (sMk_fA hn r)
theorem row_tr {n : Nat} {may : Int → Int → Bool} {od br : Int → Bool} {r : Int → Int} (hn : n ≤ 12) (h : rOk n may (fA n) r) (ho : ∀ x y : Int, 0 ≤ x → x < n → 0 ≤ y → y < n → may x y = true → od x = od y) : zpar (trR n od br (sMk (fA n) r)) = sSign n od br r := by
  unfold sSign
  rw [← turn_is h.1 (fun x x0 x1 x2 => ?_), turn_cg (sMk_fA hn r)]
  have g := h.1 x x0 x1 x2
  rcases Int.lt_trichotomy x (sMk (fA n) r x) with z | z | z
  · exact ho _ _ x0 x1 x2 g.1 (h.2.2.2 x x0 x1 z)
  · exact absurd z.symm g.2.1
  · have := h.2.2.2 (sMk (fA n) r x) x2 g.1 (by rw [g.2.2]; exact z)
    rw [g.2.2] at this
    exact (ho _ _ x2 g.1 x0 x1 this).symm
theorem row_ro {n : Nat} {r : Int → Int} (hn : n ≤ 12) : sRounds n (sMk (fA n) r) = sRounds n r := rounds_cg (sMk_fA hn r)
