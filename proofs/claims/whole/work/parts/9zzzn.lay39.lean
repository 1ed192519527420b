/-! the law's rule as its loop begins -/
def m00 : zM := fun _ _ => 0
def mF : zM := w_X12_95 (zfill (w_X11_0 (zfill m00 0 (zblank 11))) 95 (zblank 12))
theorem mF_z (k : Int) : mF a_c k = 0 ∧ mF a_mate k = 0 ∧ mF a_places k = 0 ∧ mF 50 k = 0 ∧ mF a_what k = 0 ∧ mF a_pointOf k = 0 := ⟨rfl, rfl, rfl, rfl, rfl, rfl⟩
theorem mF_pt : ∀ q ∈ mPt, mF aM q.1 = q.2 := by decide +kernel
theorem mF_a : mF 0 0 = 1 ∧ mF 0 1 = 3 ∧ mF 0 2 = 4 ∧ mF 0 3 = 6 ∧ mF 0 4 = 8 ∧ mF 0 5 = 11 ∧ mF 0 6 = 14 ∧ mF 0 7 = 33 ∧ mF 0 8 = 37 ∧ mF 0 9 = 39 ∧ mF 0 10 = 67 ∧ mF 0 11 = 0 := by decide +kernel
theorem mF_b : mF 1 0 = 2 ∧ mF 1 1 = 0 ∧ mF 1 8 = -1 ∧ mF 1 9 = -1 ∧ mF 4 0 = 5 ∧ mF 37 0 = 38 ∧ mF 37 1 = 0 ∧ mF 6 0 = 7 ∧ mF 6 2 = 0 ∧ mF 8 0 = 9 ∧ mF 8 1 = 10 ∧ mF 8 5 = 0 ∧ mF 8 6 = 0 ∧ mF 11 0 = 12 ∧ mF 11 1 = 13 := by decide +kernel
theorem mF_d : (mF 14 0 = 15 ∧ mF 14 1 = 18 ∧ mF 14 2 = 22 ∧ mF 14 3 = 23 ∧ mF 14 4 = 24) ∧ (mF 14 5 = 25 ∧ mF 14 6 = 26 ∧ mF 14 7 = 27 ∧ mF 14 8 = 28 ∧ mF 14 9 = 29 ∧ mF 14 10 = 30 ∧ mF 14 11 = 31 ∧ mF 14 12 = 32) ∧ mF 14 19 = 0 ∧ mF 15 0 = 16 ∧ mF 15 1 = 17 ∧ (mF 18 0 = 19 ∧ mF 18 1 = 20 ∧ mF 18 2 = 21) ∧ (mF 33 0 = 34 ∧ mF 33 1 = 35 ∧ mF 33 2 = 36) := by decide +kernel
theorem mF_t : ∀ t ∈ ([39, 67] : List Int), (mF t 0 = t + 1 ∧ mF t 1 = t + 2 ∧ mF t 2 = t + 3 ∧ mF t 3 = t + 4 ∧ mF t 4 = t + 5 ∧ mF t 5 = t + 6 ∧ mF t 6 = t + 7 ∧ mF t 7 = t + 8 ∧ mF t 8 = t + 9 ∧ mF t 9 = t + 10 ∧ mF t 10 = t + 11) ∧ (mF t 11 = 0 ∧ mF t 12 = 0 ∧ mF t 13 = 0 ∧ mF t 14 = 0 ∧ mF t 15 = 0) := by decide +kernel
theorem mF_p : ∀ t ∈ ([39, 67] : List Int), ∀ k : Nat, k < 8 → mF (t + 12 + 2 * (k : Int)) 0 = t + 13 + 2 * (k : Int) ∧ mF (t + 6) (k : Int) = t + 12 + 2 * (k : Int) := by decide +kernel
theorem mF_m : mF aM f_letters = 0 ∧ mF aM f_isLaid = 0 ∧ mF aM f_isNamed = 0 ∧ mF aM f_taped = 0 ∧ mF aM f_outMany = 0 ∧ mF aM f_status = 0 ∧ mF aM f_faultKind = -1 ∧ mF aM f_faultAt = -1 := by decide +kernel
theorem mF_w : mF a_words 0 = 3369766 ∧ mF a_words 1 = 357978 ∧ mF a_words 2 = 315918 ∧ mF a_words 3 = 11047 ∧ mF a_words 4 = 9744 ∧ mF a_words 5 = 209220123 ∧ mF a_words 6 = 8399691 ∧ mF a_words 7 = 318702192 := by decide +kernel
theorem sX121 : shX (eC 121) := by
  have h : ∀ k : Nat, k < 95 → (eC 121).1 (k : Int) = zshL.getD k (0, 0) := by decide +kernel
  refine ⟨fun i i0 i1 => ?_, sC121⟩
  have := h i.toNat (by omega)
  rw [Int.toNat_of_nonneg i0] at this
  exact this
theorem bE121 : bE (eC 121) 9 16 12 16 16 32 25 16 := by
  refine ⟨sX121, ⟨by decide +kernel, by decide +kernel⟩, ⟨by decide +kernel, by decide +kernel⟩, ⟨by decide +kernel, by decide +kernel⟩, ?_, ⟨Or.inl rfl, Or.inl rfl, Or.inl rfl, Or.inl rfl⟩, ⟨Or.inl rfl, Or.inl rfl, Or.inl rfl, Or.inl rfl⟩, by omega, Nat.le_refl _, by decide +kernel, by decide +kernel⟩
  unfold shDg
  decide +kernel
theorem ptT_0 {m : zM} (g : ∀ x k : Int, x ≠ a_worths → m x k = mF x k) {t : Int} (ht : t = 39 ∨ t = 67) : ptT m t := by
  have hm : t ∈ ([39, 67] : List Int) := by rcases ht with h | h <;> (rw [h]; decide)
  have h1 := (mF_t t hm).1
  have hp : ∀ p : Int, 0 ≤ p → p < 8 → m (t + 12 + 2 * p) 0 = t + 13 + 2 * p ∧ m (t + 6) p = t + 12 + 2 * p := fun p p0 p1 => by
    have h := mF_p t hm p.toNat (by omega)
    rw [Int.toNat_of_nonneg p0] at h
    exact ⟨(g _ _ (by show _ ≠ (98 : Int); omega)).trans h.1, (g _ _ (by show _ ≠ (98 : Int); omega)).trans h.2⟩
  have gt : ∀ k, m t k = mF t k := fun k => g t k (by show _ ≠ (98 : Int); omega)
  refine ⟨⟨(gt 0).trans h1.1, (gt 1).trans h1.2.1, (gt 2).trans h1.2.2.1, (gt 3).trans h1.2.2.2.1, (gt 4).trans h1.2.2.2.2.1, (gt 5).trans h1.2.2.2.2.2.1, (gt 6).trans h1.2.2.2.2.2.2.1, (gt 7).trans h1.2.2.2.2.2.2.2.1, (gt 8).trans h1.2.2.2.2.2.2.2.2.1, (gt 9).trans h1.2.2.2.2.2.2.2.2.2.1, (gt 10).trans h1.2.2.2.2.2.2.2.2.2.2⟩, fun i i0 i1 => (hp i i0 i1).1, fun p p0 p1 => ⟨p, p0, p1, (hp p p0 p1).2⟩, fun p q p0 p1 q0 q1 e => ?_⟩
  rw [(hp p p0 p1).2, (hp q q0 q1).2] at e
  omega
theorem lw_0 {m : zM} (f : zfr [(a_worths, none)] mF m) (o : ∀ i, 0 ≤ i → i < 800 → m a_worths i = 1) : lwI m (eC 121) := by
  have g : ∀ x k : Int, x ≠ a_worths → m x k = mF x k := fun x k h => f x k (by simp only [List.mem_cons, Prod.mk.injEq, and_true, List.not_mem_nil, or_false]; exact h) (by simp)
  have n9 : ∀ {x : Int}, x ≠ 98 → x ≠ a_worths := fun h => h
  have gm : ∀ k, m aM k = mF aM k := fun k => g aM k (by decide)
  have ec : m a_c = cZ (fun _ => 0) := funext (fun k => by
    rw [g a_c k (by decide), (mF_z k).1]
    unfold cZ
    split <;> rfl)
  have c0 : ∀ x, m a_c x = 0 := fun x => (g a_c x (by decide)).trans (mF_z x).1
  have hI : tI (m a_c) := by
    rw [ec]
    exact ⟨cZ_inv _, cZ_mz _, cZ_i2 _⟩
  have hl : m aM f_letters = 0 := (gm _).trans mF_m.1
  have hfl : isFlat (m a_c) (m a_what) (m a_pointOf) (m aM f_letters) := by
    refine ⟨?_, fun p k hp hk => ?_⟩
    · rw [hl, c0 2]
      rfl
    · rw [c0 2] at hp
      omega
  have hx : ∀ k, m 50 k = 0 := fun k => (g 50 k (by decide)).trans (mF_z k).2.2.2.1
  obtain ⟨p0, p1, p2, p3, p4, p5, p6, p7, p8, p9, p10, p11⟩ := mF_a
  obtain ⟨q1, q2, q3, q4, q5, q6, q7, q8, q9, q10, q11, q12, q13, q14, q15⟩ := mF_b
  obtain ⟨r1, r2, r3, r4, r5, r6, r7⟩ := mF_d
  obtain ⟨s1, s2, s3, s4, s5, s6, s7, s8⟩ := mF_m
  have t39 := (mF_t 39 (by decide)).2
  have G : ∀ {x k v : Int}, x ≠ 98 → mF x k = v → m x k = v := fun {x k v} h e => (g x k h).trans e
  refine ⟨⟨fun i => m 50 i, ⟨39, 67, 9, 16, 12, 16, 16, 32, 25, 16, ?_⟩, Or.inl (c0 2)⟩, ?_, ⟨?_, ?_⟩, ⟨?_, ?_⟩, ⟨[], cTx_0 (G (by decide) q7), ⟨(gm _).trans s5, fun t x e => by simp at e⟩⟩, ?_⟩
  · refine ⟨⟨⟨G (by decide) p0, G (by decide) p1, G (by decide) p2, G (by decide) p3, G (by decide) p4, G (by decide) p5, G (by decide) p6, G (by decide) p7, G (by decide) p8, G (by decide) p9, G (by decide) p10⟩, G (by decide) q1, G (by decide) q5, G (by decide) q6, ptT_0 g (Or.inl rfl), ptT_0 g (Or.inr rfl), Or.inl ⟨rfl, rfl⟩, by rw [G (by decide) q2]; decide⟩, ⟨?_, ?_, fun i _ _ => rfl⟩, ⟨G (by decide) q8, Or.inl (G (by decide) q9), fun e => absurd ((G (by decide) q9).symm.trans e) (by decide)⟩, ⟨G (by decide) q10, G (by decide) q11, Or.inl (G (by decide) q12), fun e => absurd ((G (by decide) q12).symm.trans e) (by decide), fun _ => G (by decide) q13⟩, ⟨G (by decide) q14, G (by decide) q15⟩, ⟨⟨G (by decide) r1.1, G (by decide) r1.2.1, G (by decide) r1.2.2.1, G (by decide) r1.2.2.2.1, G (by decide) r1.2.2.2.2⟩, ⟨G (by decide) r6.1, G (by decide) r6.2.1, G (by decide) r6.2.2⟩, G (by decide) r4, G (by decide) r5, ⟨G (by decide) r2.1, G (by decide) r2.2.1, G (by decide) r2.2.2.1, G (by decide) r2.2.2.2.1, G (by decide) r2.2.2.2.2.1, G (by decide) r2.2.2.2.2.2.1, G (by decide) r2.2.2.2.2.2.2.1, G (by decide) r2.2.2.2.2.2.2.2, trivial⟩, Or.inl (G (by decide) r3), fun e => absurd ((G (by decide) r3).symm.trans e) (by decide)⟩, ⟨G (by decide) r7.1, G (by decide) r7.2.1, G (by decide) r7.2.2⟩, bE121, ⟨hI, hfl, fun k _ _ => by show -9 ≤ m 50 k ∧ m 50 k ≤ 9; rw [hx k]; decide⟩, fun e => absurd ((G (by decide) r3).symm.trans e) (by decide)⟩
    · refine ⟨(G (by decide) t39.1).trans (c0 0).symm, (G (by decide) t39.2.1).trans (c0 1).symm, (G (by decide) t39.2.2.1).trans (c0 2).symm, fun f f0 f1 => ?_, fun k k0 k1 => ?_, fun p p0 p1 => ?_⟩
      · have : f < 0 := by rw [← c0 0]; exact f1
        omega
      · have : k < 0 := by rw [← c0 1]; exact k1
        omega
      · have : p < 0 := by rw [← c0 2]; exact p1
        omega
    · have hl2 : (mT m).2.2.2 = 0 := hl
      rw [hl2]
      exact ⟨G (by decide) t39.2.2.2.1, fun i i0 i1 => by omega, fun i j i0 i1 => by omega, G (by decide) t39.2.2.2.2⟩
  · refine ⟨⟨fun q hq => (gm _).trans (mF_pt q hq), hI.1.1, hfl, by rw [hl]; decide, fun x _ => (g a_mate x (by decide)).trans (mF_z x).2.1⟩, ⟨Or.inl ((gm _).trans s2), fun e => absurd (((gm _).trans s2).symm.trans e) (by decide)⟩, ⟨Or.inl ((gm _).trans s3), fun e => absurd (((gm _).trans s3).symm.trans e) (by decide)⟩, fun x _ _ => by rw [g a_places x (by decide), (mF_z x).2.2.1]; decide, fun k k0 k1 => by rw [o k k0 k1]; decide, by rw [gm, s4]; decide, by rw [gm, s5]; decide, ?_⟩
    obtain ⟨w1, w2, w3, w4, w5, w6, w7, w8⟩ := mF_w
    exact ⟨G (by decide) w1, G (by decide) w2, G (by decide) w3, G (by decide) w4, G (by decide) w5, G (by decide) w6, G (by decide) w7, G (by decide) w8⟩
  · rw [G (by decide) q2, gm, s4]
  · intro x x0 x1
    rw [G (by decide) q2] at x1
    omega
  · rw [G (by decide) q3, gm, s7]
  · rw [G (by decide) q4, gm, s8]
  · rw [G (by decide) p11, gm, s6]
