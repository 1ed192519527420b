/-! the class's object: where its cells lie, what it holds between two calls -/
def zshT : List (Nat × Int) := [(13, 16), (1, 6), (4, 6), (4, 6), (1, 4), (1, 4), (5, 8), (1, 12), (1, 12), (1, 12), (1, 144), (1, 800), (11, 4), (1, 6), (11, 4), (1, 6), (11, 4), (1, 6), (11, 4), (1, 6), (11, 4), (1, 6), (11, 4), (1, 6), (11, 4), (1, 6), (11, 4), (1, 6)]
def zshL : List (Nat × Int) := [(17, 12), (15, 10), (1, 400), (14, 0), (9, 4), (1, 6), (16, 3), (1, 4096), (10, 7), (2, 16), (1, 16), (10, 7), (2, 16), (1, 16), (6, 20), (8, 3), (2, 32), (1, 32), (7, 5), (1, 8), (1, 6), (1, 6), (1, 120), (1, 6), (1, 6), (2, 16), (1, 16), (1, 16), (1, 16), (1, 16), (1, 16), (1, 16), (1, 16), (7, 5), (1, 8), (1, 6), (1, 6), (12, 2), (1, 48)] ++ zshT ++ zshT
def shX (E : zE) : Prop := (∀ i : Int, 0 ≤ i → i < 95 → E.1 i = zshL.getD i.toNat (0, 0)) ∧ shM E
theorem shX_at {E : zE} (h : shX E) {i : Int} {v : Nat × Int} (h0 : 0 ≤ i) (h1 : i < 95) (e : zshL.getD i.toNat (0, 0) = v) : E.1 i = v := by rw [h.1 i h0 h1, e]
theorem shX_gr {E E' : zE} (h : shX E) (e : ∀ i : Int, i < 121 → E'.1 i = E.1 i) : shX E' := by
  refine ⟨fun i i0 i1 => by rw [e i (by omega)]; exact h.1 i i0 i1, fun q hq => ?_⟩
  have hb : ∀ q ∈ mSh, q.1 < 121 := by decide
  rw [e _ (hb q hq)]
  exact h.2 q hq
theorem sx_0 {E : zE} (h : shX E) : E.1 0 = (17, 12) := shX_at h (by decide) (by decide) rfl
theorem sx_3 {E : zE} (h : shX E) : E.1 3 = (14, 0) := shX_at h (by decide) (by decide) rfl
theorem sx_4 {E : zE} (h : shX E) : E.1 4 = (9, 4) := shX_at h (by decide) (by decide) rfl
theorem sx_5 {E : zE} (h : shX E) : E.1 5 = (1, 6) := shX_at h (by decide) (by decide) rfl
theorem sx_6 {E : zE} (h : shX E) : E.1 6 = (16, 3) := shX_at h (by decide) (by decide) rfl
theorem sx_7 {E : zE} (h : shX E) : E.1 7 = (1, 4096) := shX_at h (by decide) (by decide) rfl
theorem sx_8 {E : zE} (h : shX E) : E.1 8 = (10, 7) := shX_at h (by decide) (by decide) rfl
theorem sx_11 {E : zE} (h : shX E) : E.1 11 = (10, 7) := shX_at h (by decide) (by decide) rfl
theorem sx_14 {E : zE} (h : shX E) : E.1 14 = (6, 20) := shX_at h (by decide) (by decide) rfl
theorem sx_15 {E : zE} (h : shX E) : E.1 15 = (8, 3) := shX_at h (by decide) (by decide) rfl
theorem sx_22 {E : zE} (h : shX E) : E.1 22 = (1, 120) := shX_at h (by decide) (by decide) rfl
theorem sx_23 {E : zE} (h : shX E) : E.1 23 = (1, 6) := shX_at h (by decide) (by decide) rfl
theorem sx_24 {E : zE} (h : shX E) : E.1 24 = (1, 6) := shX_at h (by decide) (by decide) rfl
theorem sx_K {E : zE} (h : shX E) : shK E := ⟨shX_at h (by decide) (by decide) rfl, shX_at h (by decide) (by decide) rfl⟩
theorem sx_P {E : zE} (h : shX E) : shP E 37 := ⟨shX_at h (by decide) (by decide) rfl, shX_at h (by decide) (by decide) rfl⟩
theorem sx_G18 {E : zE} (h : shX E) : shG E 18 := ⟨shX_at h (by decide) (by decide) rfl, shX_at h (by decide) (by decide) rfl, shX_at h (by decide) (by decide) rfl, shX_at h (by decide) (by decide) rfl⟩
theorem sx_G33 {E : zE} (h : shX E) : shG E 33 := ⟨shX_at h (by decide) (by decide) rfl, shX_at h (by decide) (by decide) rfl, shX_at h (by decide) (by decide) rfl, shX_at h (by decide) (by decide) rfl⟩
theorem sx_T {E : zE} (h : shX E) {t : Int} (ht : t = 39 ∨ t = 67) : shT E t := by
  rcases ht with rfl | rfl
  · refine ⟨shX_at h (by decide) (by decide) rfl, shX_at h (by decide) (by decide) rfl, shX_at h (by decide) (by decide) rfl, shX_at h (by decide) (by decide) rfl, shX_at h (by decide) (by decide) rfl, shX_at h (by decide) (by decide) rfl, shX_at h (by decide) (by decide) rfl, shX_at h (by decide) (by decide) rfl, shX_at h (by decide) (by decide) rfl, shX_at h (by decide) (by decide) rfl, shX_at h (by decide) (by decide) rfl, shX_at h (by decide) (by decide) rfl, fun i i0 i1 => ?_⟩
    have hi : i = 0 ∨ i = 1 ∨ i = 2 ∨ i = 3 ∨ i = 4 ∨ i = 5 ∨ i = 6 ∨ i = 7 := by omega
    rcases hi with rfl | rfl | rfl | rfl | rfl | rfl | rfl | rfl <;> exact ⟨shX_at h (by decide) (by decide) rfl, shX_at h (by decide) (by decide) rfl⟩
  · refine ⟨shX_at h (by decide) (by decide) rfl, shX_at h (by decide) (by decide) rfl, shX_at h (by decide) (by decide) rfl, shX_at h (by decide) (by decide) rfl, shX_at h (by decide) (by decide) rfl, shX_at h (by decide) (by decide) rfl, shX_at h (by decide) (by decide) rfl, shX_at h (by decide) (by decide) rfl, shX_at h (by decide) (by decide) rfl, shX_at h (by decide) (by decide) rfl, shX_at h (by decide) (by decide) rfl, shX_at h (by decide) (by decide) rfl, fun i i0 i1 => ?_⟩
    have hi : i = 0 ∨ i = 1 ∨ i = 2 ∨ i = 3 ∨ i = 4 ∨ i = 5 ∨ i = 6 ∨ i = 7 := by omega
    rcases hi with rfl | rfl | rfl | rfl | rfl | rfl | rfl | rfl <;> exact ⟨shX_at h (by decide) (by decide) rfl, shX_at h (by decide) (by decide) rfl⟩
/-- pointers of the counter and its small objects; the tape's length -/
def bA (m : zM) (t s : Int) : Prop := (m 0 0 = 1 ∧ m 0 1 = 3 ∧ m 0 2 = 4 ∧ m 0 3 = 6 ∧ m 0 4 = 8 ∧ m 0 5 = 11 ∧ m 0 6 = 14 ∧ m 0 7 = 33 ∧ m 0 8 = 37 ∧ m 0 9 = t ∧ m 0 10 = s) ∧ m 1 0 = 2 ∧ m 4 0 = 5 ∧ ptP m 37 ∧ ptT m t ∧ ptT m s ∧ ((t = 39 ∧ s = 67) ∨ (t = 67 ∧ s = 39)) ∧ (0 ≤ m 1 1 ∧ m 1 1 ≤ 400)
/-- the theory -/
def bT (m : zM) (t : Int) (T : zT) (X : Int → Int) : Prop := cTh m t T.1 ∧ cFl m t T.1 T.2.1 T.2.2.1 T.2.2.2 ∧ ∀ i, 0 ≤ i → i < 800 → m (t + 11) i = X i
abbrev nT (T : zT) : Nat := T.2.2.2.toNat
abbrev mayT (T : zT) : Int → Int → Bool := cMay T.1 T.2.1 T.2.2.1
abbrev lT (T : zT) : Int := ((tPairs T).length : Int)
/-- the table of ways -/
def bW (m : zM) (T : zT) : Prop := m 6 0 = 7 ∧ (m 6 2 = 0 ∨ m 6 2 = 1) ∧ (m 6 2 = 1 → wT m (nT T) (mayT T))
/-- the table of pairings -/
def bQ (m : zM) (T : zT) (a cap : Int) : Prop := m 8 0 = a ∧ m 8 1 = a + 1 ∧ (m 8 5 = 0 ∨ m 8 5 = 1) ∧ (m 8 5 = 1 → (0 ≤ m 8 6 ∧ m 8 6 ≤ 1) ∧ pTb m 8 a (nT T) (cOd T.1 T.2.1) (cBr T.1 T.2.1) (fA (nT T)) (tPairs T) (m 8 6) ∧ rm (lT T) ≤ cap) ∧ (m 8 5 = 0 → m 8 6 = 0)
/-- that of some points' letters -/
def bU (m : zM) (a2 : Int) : Prop := m 11 0 = a2 ∧ m 11 1 = a2 + 1
/-- that of diagrams -/
def bD (m : zM) (T : zT) (ka kcap b bcap : Int) : Prop := (m 14 0 = 15 ∧ m 14 1 = 18 ∧ m 14 2 = 22 ∧ m 14 3 = 23 ∧ m 14 4 = 24) ∧ ptG m 18 ∧ m 15 0 = ka ∧ m 15 1 = ka + 1 ∧ qDg m 14 b ∧ (m 14 19 = 0 ∨ m 14 19 = 1) ∧ (m 14 19 = 1 → (∃ D F cc, dM m b T D ∧ bS T (tPairs T) D F ∧ kT m ka (kEx (lT T) 10 0) F cc) ∧ m 15 2 = ((2 ^ kEx (lT T) 10 0 : Nat) : Int) ∧ ((2 ^ kEx (lT T) 10 0 : Nat) : Int) ≤ kcap ∧ rm (lT T) ≤ bcap)
/-- shapes -/
def cpS (x : Int) : Prop := x = 16 ∨ x = 64 ∨ x = 256 ∨ x = 1024 ∨ x = 4096 ∨ x = 10395
def kpS (x : Int) : Prop := x = 32 ∨ x = 64 ∨ x = 128 ∨ x = 256 ∨ x = 512 ∨ x = 1024 ∨ x = 2048 ∨ x = 4096 ∨ x = 8192 ∨ x = 16384
def psX (E : zE) (x x0 k : Int) : Prop := x = x0 ∨ (121 ≤ x ∧ x + k ≤ E.2.1)
def bE (E : zE) (a cap a2 cap2 ka kcap b bcap : Int) : Prop := shX E ∧ (E.1 a = (2, cap) ∧ E.1 (a + 1) = (1, cap)) ∧ (E.1 a2 = (2, cap2) ∧ E.1 (a2 + 1) = (1, cap2)) ∧ (E.1 ka = (2, kcap) ∧ E.1 (ka + 1) = (1, kcap)) ∧ shDg E b bcap ∧ (cpS cap ∧ cpS cap2 ∧ kpS kcap ∧ cpS bcap) ∧ (psX E a 9 2 ∧ psX E a2 12 2 ∧ psX E ka 16 2 ∧ psX E b 25 8) ∧ ((a + 1 < a2 ∨ a2 + 1 < a) ∧ (a + 1 < ka ∨ ka + 1 < a) ∧ (a2 + 1 < ka ∨ ka + 1 < a2) ∧ (a + 1 < b ∨ b + 8 ≤ a) ∧ (a2 + 1 < b ∨ b + 8 ≤ a2) ∧ (ka + 1 < b ∨ b + 8 ≤ ka)) ∧ 121 ≤ E.2.1 ∧ (E.2.1 : Int) ≤ 121 + cap + cap2 + 2 * kcap + bcap ∧ (E.2.2 : Int) ≤ 400000 + 4 * cap + 4 * cap2 + 4 * kcap + 16 * bcap
/-- what is told of the theory -/
def tA (T : zT) (X : Int → Int) : Prop := tI T.1 ∧ isFlat T.1 T.2.1 T.2.2.1 T.2.2.2 ∧ ∀ k : Int, 0 ≤ k → k < 800 → -9 ≤ X k ∧ X k ≤ 9
def cJ (m : zM) (E : zE) (T : zT) (X : Int → Int) (t s a cap a2 cap2 ka kcap b bcap : Int) : Prop := bA m t s ∧ bT m t T X ∧ bW m T ∧ bQ m T a cap ∧ bU m a2 ∧ bD m T ka kcap b bcap ∧ ptG m 33 ∧ bE E a cap a2 cap2 ka kcap b bcap ∧ tA T X ∧ (m 14 19 = 1 → m 8 5 = 1)
/-- a query leaves these -/
def qFr (m m' : zM) : Prop := ∀ a k : Int, (a = 0 ∨ (1 ≤ a ∧ a ≤ 5) ∨ (37 ≤ a ∧ a < 121)) → m' a k = m a k
theorem qFr_rf {m : zM} : qFr m m := fun _ _ _ => rfl
theorem qFr_tr {m m1 m2 : zM} (h : qFr m m1) (g : qFr m1 m2) : qFr m m2 := fun a k q => (g a k q).trans (h a k q)
theorem bA_in {m m' : zM} {t s : Int} (h : bA m t s) (f : ∀ a k : Int, ((a = 0 ∧ k < 11) ∨ (a = 1 ∧ k < 2) ∨ (a = 4 ∧ k = 0) ∨ (a = 37 ∧ k = 0) ∨ (39 ≤ a ∧ a < 95)) → m' a k = m a k) : bA m' t s := by
  obtain ⟨⟨h0, h1, h2, h3, h4, h5, h6, h7, h8, h9, h10⟩, k1, k4, kp, kt, ks, hts, htl⟩ := h
  refine ⟨⟨?_, ?_, ?_, ?_, ?_, ?_, ?_, ?_, ?_, ?_, ?_⟩, ?_, ?_, ?_, ?_, ?_, hts, ?_⟩
  · rw [f 0 0 (by omega)]; exact h0
  · rw [f 0 1 (by omega)]; exact h1
  · rw [f 0 2 (by omega)]; exact h2
  · rw [f 0 3 (by omega)]; exact h3
  · rw [f 0 4 (by omega)]; exact h4
  · rw [f 0 5 (by omega)]; exact h5
  · rw [f 0 6 (by omega)]; exact h6
  · rw [f 0 7 (by omega)]; exact h7
  · rw [f 0 8 (by omega)]; exact h8
  · rw [f 0 9 (by omega)]; exact h9
  · rw [f 0 10 (by omega)]; exact h10
  · rw [f 1 0 (by omega)]; exact k1
  · rw [f 4 0 (by omega)]; exact k4
  · unfold ptP at kp ⊢; rw [f 37 0 (by omega)]; exact kp
  · exact ptT_in kt (fun a j q0 q1 => f a j (by omega))
  · exact ptT_in ks (fun a j q0 q1 => f a j (by omega))
  · rw [f 1 1 (by omega)]; exact htl
theorem bT_in {m m' : zM} {t : Int} {T : zT} {X : Int → Int} (h : bT m t T X) (hp : ptT m t) (hw : wfC T.1) (f : ∀ a k : Int, t ≤ a → a < t + 28 → m' a k = m a k) : bT m' t T X := by
  obtain ⟨h1, h2, h3⟩ := h
  refine ⟨cTh_in hp (wfD_of hw) h1 f, cFl_in h2 f, fun i i0 i1 => ?_⟩
  rw [f (t + 11) i (by omega) (by omega)]
  exact h3 i i0 i1
theorem bW_in {m m' : zM} {T : zT} (h : bW m T) (f : ∀ a k : Int, (a = 6 ∨ a = 7) → m' a k = m a k) : bW m' T := by
  obtain ⟨h1, h2, h3⟩ := h
  unfold bW wT
  rw [f 6 0 (by omega), f 6 2 (by omega), f 6 1 (by omega)]
  refine ⟨h1, h2, fun e => ⟨(h3 e).1, fun x hx => ?_⟩⟩
  rw [f 7 _ (by omega)]
  exact (h3 e).2 x hx
theorem pTb_in {m m' : zM} {p a : Int} {n : Nat} {od br : Int → Bool} {A : Nat} {L : zLr} {ρ : Int} (h : pTb m p a n od br A L ρ) (f : ∀ x k : Int, (x = p ∨ x = a ∨ x = a + 1) → m' x k = m x k) : pTb m' p a n od br A L ρ := by
  obtain ⟨h0, h1, h2, h3, h4, h5, h6⟩ := h
  unfold pTb
  rw [f p 0 (by omega), f p 1 (by omega), f p 2 (by omega), f p 3 (by omega), f p 4 (by omega), f p 6 (by omega)]
  refine ⟨h0, h1, h2, h3, h4, h5, fun t mt ht => ?_⟩
  rw [f a _ (by omega), f (a + 1) _ (by omega)]
  exact h6 t mt ht
theorem bQ_in {m m' : zM} {T : zT} {a cap : Int} (h : bQ m T a cap) (f : ∀ x k : Int, (x = 8 ∨ x = a ∨ x = a + 1) → m' x k = m x k) : bQ m' T a cap := by
  obtain ⟨h0, h1, h2, h3, h4⟩ := h
  unfold bQ
  rw [f 8 0 (by omega), f 8 1 (by omega), f 8 5 (by omega), f 8 6 (by omega)]
  exact ⟨h0, h1, h2, fun e => ⟨(h3 e).1, pTb_in (h3 e).2.1 f, (h3 e).2.2⟩, h4⟩
theorem bU_in {m m' : zM} {a2 : Int} (h : bU m a2) (f : ∀ k : Int, (k = 0 ∨ k = 1) → m' 11 k = m 11 k) : bU m' a2 := by
  unfold bU
  rw [f 0 (by omega), f 1 (by omega)]
  exact h
theorem kT_in {m m' : zM} {a : Int} {e : Nat} {F : Int → Int} {c : Int} (h : kT m a e F c) (f : ∀ x k : Int, (x = a ∨ x = a + 1) → m' x k = m x k) : kT m' a e F c := by
  have e0 : m' a = m a := funext (fun k => f a k (Or.inl rfl))
  have e1 : m' (a + 1) = m (a + 1) := funext (fun k => f (a + 1) k (Or.inr rfl))
  unfold kT kI at h ⊢
  rw [e0, e1]
  exact h
theorem ptG_in {m m' : zM} {g : Int} (h : ptG m g) (f : ∀ k : Int, k < 3 → m' g k = m g k) : ptG m' g := by
  unfold ptG
  rw [f 0 (by omega), f 1 (by omega), f 2 (by omega)]
  exact h
theorem qDg_in {m m' : zM} {o b : Int} (h : qDg m o b) (f : ∀ k : Int, 5 ≤ k → k < 13 → m' o k = m o k) : qDg m' o b := by
  unfold qDg
  rw [f 5 (by omega) (by omega), f 6 (by omega) (by omega), f 7 (by omega) (by omega), f 8 (by omega) (by omega), f 9 (by omega) (by omega), f 10 (by omega) (by omega), f 11 (by omega) (by omega), f 12 (by omega) (by omega)]
  exact h
theorem dM_in {m m' : zM} {b : Int} {T : zT} {D : List Int} (h : dM m b T D) (f : ∀ x k : Int, (x = 14 ∨ (x = 18 ∧ k < 3) ∨ (b ≤ x ∧ x < b + 8)) → m' x k = m x k) : dM m' b T D := by
  obtain ⟨h0, h1, h2, h3, h4, h5, h6, h7⟩ := h
  unfold dM
  rw [f 14 1 (by omega), f 14 14 (by omega), f 14 15 (by omega), f 14 16 (by omega), f 14 17 (by omega)]
  exact ⟨dG_fr h0 (fun x i x0 x1 => f _ i (by omega)) (f 14 18 (by omega)), qDg_in h1 (fun k _ _ => f 14 k (by omega)), h2, ptG_in h3 (fun k hk => f 18 k (by omega)), h4, h5, h6, h7⟩
theorem bD_in {m m' : zM} {T : zT} {ka kcap b bcap : Int} (h : bD m T ka kcap b bcap) (f : ∀ x k : Int, (x = 14 ∨ x = 15 ∨ (x = 18 ∧ k < 3) ∨ (b ≤ x ∧ x < b + 8) ∨ x = ka ∨ x = ka + 1) → m' x k = m x k) : bD m' T ka kcap b bcap := by
  obtain ⟨h0, h1, h2, h3, h4, h5, h6⟩ := h
  unfold bD
  rw [f 14 0 (by omega), f 14 1 (by omega), f 14 2 (by omega), f 14 3 (by omega), f 14 4 (by omega), f 15 0 (by omega), f 15 1 (by omega), f 15 2 (by omega), f 14 19 (by omega)]
  refine ⟨h0, ptG_in h1 (fun k hk => f 18 k (by omega)), h2, h3, qDg_in h4 (fun k _ _ => f 14 k (by omega)), h5, fun e => ?_⟩
  obtain ⟨⟨D, F, cc, g1, g2, g3⟩, g4, g5, g6⟩ := h6 e
  exact ⟨⟨D, F, cc, dM_in g1 (fun x k q => f x k (by omega)), g2, kT_in g3 (fun x k q => f x k (by omega))⟩, g4, g5, g6⟩
theorem cp_rg {x : Int} (h : cpS x) : 16 ≤ x ∧ x ≤ 10395 := by unfold cpS at h; omega
theorem kp_rg {x : Int} (h : kpS x) : 32 ≤ x ∧ x ≤ 16384 := by unfold kpS at h; omega
theorem bE_pos {E : zE} {a cap a2 cap2 ka kcap b bcap : Int} (h : bE E a cap a2 cap2 ka kcap b bcap) : ((a = 9 ∨ 121 ≤ a) ∧ a + 2 ≤ E.2.1) ∧ ((a2 = 12 ∨ 121 ≤ a2) ∧ a2 + 2 ≤ E.2.1) ∧ ((ka = 16 ∨ 121 ≤ ka) ∧ ka + 2 ≤ E.2.1) ∧ ((b = 25 ∨ 121 ≤ b) ∧ b + 8 ≤ E.2.1) ∧ (16 ≤ cap ∧ cap ≤ 10395) ∧ (16 ≤ cap2 ∧ cap2 ≤ 10395) ∧ (32 ≤ kcap ∧ kcap ≤ 16384) ∧ (16 ≤ bcap ∧ bcap ≤ 10395) := by
  obtain ⟨_, _, _, _, _, ⟨c1, c2, c3, c4⟩, ⟨p1, p2, p3, p4⟩, _, hN, _⟩ := h
  unfold psX at p1 p2 p3 p4
  exact ⟨⟨by omega, by omega⟩, ⟨by omega, by omega⟩, ⟨by omega, by omega⟩, ⟨by omega, by omega⟩, cp_rg c1, cp_rg c2, kp_rg c3, cp_rg c4⟩
/-- what the object holds lies in these cells -/
theorem cJ_loc {m m' : zM} {E : zE} {T : zT} {X : Int → Int} {t s a cap a2 cap2 ka kcap b bcap : Int} (h : cJ m E T X t s a cap a2 cap2 ka kcap b bcap) (f : ∀ x k : Int, ((x = 0 ∧ k < 11) ∨ (x = 1 ∧ k < 2) ∨ (x = 4 ∧ k = 0) ∨ (6 ≤ x ∧ x ≤ 32) ∨ (x = 33 ∧ k < 3) ∨ (x = 37 ∧ k = 0) ∨ (39 ≤ x ∧ x < 95) ∨ 121 ≤ x) → m' x k = m x k) : cJ m' E T X t s a cap a2 cap2 ka kcap b bcap := by
  obtain ⟨hA, hT, hW, hQ, hU, hD, hG, hE, hP, hR⟩ := h
  have ho := bE_pos hE
  have ht := hA.2.2.2.2.2.2.1
  refine ⟨bA_in hA (fun x k q => f x k (by omega)), bT_in hT hA.2.2.2.2.1 hP.1.1.1 (fun x k q0 q1 => f x k (by omega)), bW_in hW (fun x k q => f x k (by omega)), bQ_in hQ (fun x k q => f x k (by omega)), bU_in hU (fun k q => f 11 k (by omega)), bD_in hD (fun x k q => f x k (by omega)), ptG_in hG (fun k q => f 33 k (by omega)), hE, hP, ?_⟩
  rw [f 14 19 (by omega), f 8 5 (by omega)]
  exact hR
theorem rm_cp (x : Int) : cpS (rm x) := by
  unfold rm cpS
  split
  · omega
  · split
    · omega
    · split
      · omega
      · split
        · omega
        · split <;> omega
theorem cp_2 {x y : Int} (hx : cpS x) (hy : cpS y) (h : x < y) : 2 * x ≤ y ∧ x + 48 ≤ y := by
  unfold cpS at hx hy
  omega
theorem kp_2 {x y : Int} (hx : kpS x) (hy : kpS y) (h : x < y) : 2 * x ≤ y := by
  unfold kpS at hx hy
  rcases hy with rfl | rfl | rfl | rfl | rfl | rfl | rfl | rfl | rfl | rfl <;> omega
theorem kp_e {e : Nat} (h : 5 ≤ e ∧ e ≤ 14) : kpS ((2 ^ e : Nat) : Int) := by
  have he : e = 5 ∨ e = 6 ∨ e = 7 ∨ e = 8 ∨ e = 9 ∨ e = 10 ∨ e = 11 ∨ e = 12 ∨ e = 13 ∨ e = 14 := by omega
  rcases he with rfl | rfl | rfl | rfl | rfl | rfl | rfl | rfl | rfl | rfl <;> (unfold kpS; decide)
theorem kRm_kp {kcap x : Int} (hk : kpS kcap) (he : kEx x 10 0 ≤ 14) (hg : kcap < ((2 ^ kEx x 10 0 : Nat) : Int)) : kpS (kRm kcap x) ∧ 2 * kcap ≤ kRm kcap x := by
  have h2 := kp_e ⟨kEx_5 x 10 0, he⟩
  have h3 := kp_2 hk h2 hg
  unfold kRm
  generalize ((2 ^ kEx x 10 0 : Nat) : Int) = y at *
  have hM : kpS (if 16384 < 4 * kcap then 16384 else 4 * kcap) := by
    unfold kpS at hk ⊢
    split <;> omega
  generalize (if 16384 < 4 * kcap then (16384 : Int) else 4 * kcap) = M at *
  split
  · exact ⟨hM, by omega⟩
  · exact ⟨h2, h3⟩
theorem nwN_2 (E : zE) (R : Int) : ∀ k : Nat, (nwN E R k).2.2 = E.2.2 + k * R.toNat
  | 0 => by unfold nwN; omega
  | k + 1 => by
    have h := nwN_2 E R k
    show (nwN E R k).2.2 + R.toNat = _
    rw [h, Nat.add_mul, Nat.one_mul]
    omega
theorem bE_fill {E : zE} {a cap a2 cap2 ka kcap b bcap R : Int} (h : bE E a cap a2 cap2 ka kcap b bcap) (hR : cpS R) (hc : cap < R) : bE (znew (znew E 2 R R.toNat) 1 R R.toNat) (E.2.1 : Int) R a2 cap2 ka kcap b bcap := by
  have ho := bE_pos h
  obtain ⟨h1, h2, h3, h4, h5, ⟨c1, c2, c3, c4⟩, ⟨p1, p2, p3, p4⟩, d, hN, n1, n2⟩ := h
  have hl := cp_2 c1 hR hc
  have R0 : 0 ≤ R := by unfold cpS at hR; omega
  have eo : ∀ i : Int, i < (E.2.1 : Int) → (znew (znew E 2 R R.toNat) 1 R R.toNat).1 i = E.1 i := fun i hi => by
    show (if i = ((E.2.1 + 1 : Nat) : Int) then _ else if i = (E.2.1 : Int) then _ else _) = _
    rw [if_neg (by omega), if_neg (by omega)]
  have e1 : (znew (znew E 2 R R.toNat) 1 R R.toNat).2.1 = E.2.1 + 2 := rfl
  have e2 : (znew (znew E 2 R R.toNat) 1 R R.toNat).2.2 = E.2.2 + R.toNat + R.toNat := rfl
  have psN : ∀ x x0 k : Int, psX E x x0 k → psX (znew (znew E 2 R R.toNat) 1 R R.toNat) x x0 k := fun x x0 k hp => by unfold psX at hp ⊢; rw [e1]; omega
  refine ⟨shX_gr h1 (fun i hi => eo i (by omega)), ⟨?_, ?_⟩, ⟨by rw [eo _ (by omega)]; exact h3.1, by rw [eo _ (by omega)]; exact h3.2⟩, ⟨by rw [eo _ (by omega)]; exact h4.1, by rw [eo _ (by omega)]; exact h4.2⟩, shDg_in h5 (fun x q0 q1 => eo x (by omega)), ⟨hR, c2, c3, c4⟩, ⟨Or.inr ⟨by omega, by rw [e1]; omega⟩, psN _ _ _ p2, psN _ _ _ p3, psN _ _ _ p4⟩, ?_, by rw [e1]; omega, by rw [e1]; omega, by rw [e2]; omega⟩
  · show (if (E.2.1 : Int) = ((E.2.1 + 1 : Nat) : Int) then _ else if (E.2.1 : Int) = (E.2.1 : Int) then _ else _) = _
    rw [if_neg (by omega), if_pos rfl]
  · show (if (E.2.1 : Int) + 1 = ((E.2.1 + 1 : Nat) : Int) then _ else _) = _
    rw [if_pos (by omega)]
  · omega
theorem bE_sub {E : zE} {a cap a2 cap2 ka kcap b bcap R : Int} (h : bE E a cap a2 cap2 ka kcap b bcap) (hR : cpS R) (hc : cap2 < R) : bE (znew (znew E 2 R R.toNat) 1 R R.toNat) a cap (E.2.1 : Int) R ka kcap b bcap := by
  have ho := bE_pos h
  obtain ⟨h1, h2, h3, h4, h5, ⟨c1, c2, c3, c4⟩, ⟨p1, p2, p3, p4⟩, d, hN, n1, n2⟩ := h
  have hl := cp_2 c2 hR hc
  have R0 : 0 ≤ R := by unfold cpS at hR; omega
  have eo : ∀ i : Int, i < (E.2.1 : Int) → (znew (znew E 2 R R.toNat) 1 R R.toNat).1 i = E.1 i := fun i hi => by
    show (if i = ((E.2.1 + 1 : Nat) : Int) then _ else if i = (E.2.1 : Int) then _ else _) = _
    rw [if_neg (by omega), if_neg (by omega)]
  have e1 : (znew (znew E 2 R R.toNat) 1 R R.toNat).2.1 = E.2.1 + 2 := rfl
  have e2 : (znew (znew E 2 R R.toNat) 1 R R.toNat).2.2 = E.2.2 + R.toNat + R.toNat := rfl
  have psN : ∀ x x0 k : Int, psX E x x0 k → psX (znew (znew E 2 R R.toNat) 1 R R.toNat) x x0 k := fun x x0 k hp => by unfold psX at hp ⊢; rw [e1]; omega
  refine ⟨shX_gr h1 (fun i hi => eo i (by omega)), ⟨by rw [eo _ (by omega)]; exact h2.1, by rw [eo _ (by omega)]; exact h2.2⟩, ⟨?_, ?_⟩, ⟨by rw [eo _ (by omega)]; exact h4.1, by rw [eo _ (by omega)]; exact h4.2⟩, shDg_in h5 (fun x q0 q1 => eo x (by omega)), ⟨c1, hR, c3, c4⟩, ⟨psN _ _ _ p1, Or.inr ⟨by omega, by rw [e1]; omega⟩, psN _ _ _ p3, psN _ _ _ p4⟩, ?_, by rw [e1]; omega, by rw [e1]; omega, by rw [e2]; omega⟩
  · show (if (E.2.1 : Int) = ((E.2.1 + 1 : Nat) : Int) then _ else if (E.2.1 : Int) = (E.2.1 : Int) then _ else _) = _
    rw [if_neg (by omega), if_pos rfl]
  · show (if (E.2.1 : Int) + 1 = ((E.2.1 + 1 : Nat) : Int) then _ else _) = _
    rw [if_pos (by omega)]
  · omega
theorem bE_build {E : zE} {a cap a2 cap2 ka kcap b bcap x b1 bc1 ka1 kc1 : Int} (h : bE E a cap a2 cap2 ka kcap b bcap) (he : kEx x 10 0 ≤ 14) (s1 : shDg (kE1 (dE1 E bcap (rm x)) kcap x) b1 bc1) (s2 : (kE1 (dE1 E bcap (rm x)) kcap x).1 ka1 = (2, kc1)) (s3 : (kE1 (dE1 E bcap (rm x)) kcap x).1 (ka1 + 1) = (1, kc1)) (dj : (ka1 + 1 < b1 ∨ b1 + 8 ≤ ka1) ∧ (a + 1 < ka1 ∨ ka1 + 1 < a) ∧ (a + 1 < b1 ∨ b1 + 8 ≤ a)) (hb : b1 = b ∨ E.2.1 ≤ b1) (hk : ka1 = ka ∨ E.2.1 ≤ ka1) (hN : b1 + 8 ≤ (kE1 (dE1 E bcap (rm x)) kcap x).2.1 ∧ ka1 + 2 ≤ (kE1 (dE1 E bcap (rm x)) kcap x).2.1) (ebc : bc1 = if bcap < rm x then rm x else bcap) (ekc : kc1 = if kcap < ((2 ^ kEx x 10 0 : Nat) : Int) then kRm kcap x else kcap) : bE (kE1 (dE1 E bcap (rm x)) kcap x) a cap a2 cap2 ka1 kc1 b1 bc1 := by
  have ho := bE_pos h
  obtain ⟨h1, h2, h3, h4, h5, ⟨c1, c2, c3, c4⟩, ⟨p1, p2, p3, p4⟩, d, hN0, n1, n2⟩ := h
  have l1 := dE1_le E bcap (rm x)
  have l2 := kE1_le (dE1 E bcap (rm x)) kcap x
  have eo : ∀ i : Int, i < (E.2.1 : Int) → (kE1 (dE1 E bcap (rm x)) kcap x).1 i = E.1 i := fun i hi => by rw [kE1_o (by omega), dE1_o hi]
  have hrm := rm_cp x
  have hrm0 : 0 ≤ rm x := by unfold cpS at hrm; omega
  have g1 : cpS bc1 ∧ ((dE1 E bcap (rm x)).2.1 : Int) - E.2.1 ≤ bc1 - bcap ∧ ((dE1 E bcap (rm x)).2.2 : Int) - E.2.2 ≤ 16 * (bc1 - bcap) := by
    unfold dE1
    by_cases g : bcap < rm x
    · rw [if_pos g] at ebc
      rw [if_pos g, ebc, nwN_c, nwN_2]
      have := cp_2 c4 hrm g
      exact ⟨hrm, by omega, by omega⟩
    · rw [if_neg g] at ebc
      rw [if_neg g, ebc]
      exact ⟨c4, by omega, by omega⟩
  have g2 : kpS kc1 ∧ ((kE1 (dE1 E bcap (rm x)) kcap x).2.1 : Int) - (dE1 E bcap (rm x)).2.1 ≤ 2 * (kc1 - kcap) ∧ ((kE1 (dE1 E bcap (rm x)) kcap x).2.2 : Int) - (dE1 E bcap (rm x)).2.2 ≤ 4 * (kc1 - kcap) := by
    unfold kE1
    by_cases g : kcap < ((2 ^ kEx x 10 0 : Nat) : Int)
    · rw [if_pos g] at ekc
      have hq := kRm_kp c3 he g
      rw [if_pos g, ekc]
      generalize kRm kcap x = y at *
      have e1 : (znew (znew (dE1 E bcap (rm x)) 2 y y.toNat) 1 y y.toNat).2.1 = (dE1 E bcap (rm x)).2.1 + 2 := rfl
      have e2 : (znew (znew (dE1 E bcap (rm x)) 2 y y.toNat) 1 y y.toNat).2.2 = (dE1 E bcap (rm x)).2.2 + y.toNat + y.toNat := rfl
      rw [e1, e2]
      have y0 : 32 ≤ y ∧ 32 ≤ kcap := by have := hq.1; unfold kpS at this c3; omega
      exact ⟨hq.1, by omega, by omega⟩
    · rw [if_neg g] at ekc
      rw [if_neg g, ekc]
      exact ⟨c3, by omega, by omega⟩
  unfold psX at p1 p2 p3 p4
  refine ⟨shX_gr h1 (fun i hi => eo i (by omega)), ⟨by rw [eo _ (by omega)]; exact h2.1, by rw [eo _ (by omega)]; exact h2.2⟩, ⟨by rw [eo _ (by omega)]; exact h3.1, by rw [eo _ (by omega)]; exact h3.2⟩, ⟨s2, s3⟩, s1, ⟨c1, c2, g2.1, g1.1⟩, ⟨?_, ?_, ?_, ?_⟩, ?_, by omega, by omega, by omega⟩
  · unfold psX; omega
  · unfold psX; omega
  · unfold psX; omega
  · unfold psX; omega
  · omega
