def fEd0 : List (Int × Option Int) := (a_c, none) :: (a_held, none) :: fPoints
def fEd : List (Int × Option Int) := (a_c, none) :: (a_held, none) :: fPoints ++ fQ
theorem ptM_ed {m m1 : zM} (h : ptM m) (b : zfr fEd0 m m1) : ptM m1 := fun q hq => by
  have hq2 : ∀ q ∈ mPt, fEd0.all (fun r => r.1 != aM || (r.2 != none && r.2 != some q.1)) = true := by decide
  rw [zfr_at b (hq2 q hq)]
  exact h q hq
theorem mI_new {m m' : zM} (h : mI m) (f : zfr fEd0 m m') (hw : wfC (m' a_c)) (hfl : isFlat (m' a_c) (m' a_what) (m' a_pointOf) (m' aM f_letters)) (hl : m' aM f_letters ≤ 12) (i1 : m' aM f_isLaid = 0) (i2 : m' aM f_isNamed = 0) (hwo : ∀ i, 0 ≤ i → i < 800 → m' a_worths i = 1) : mI m' := by
  obtain ⟨h1, ⟨h2, h3⟩, ⟨h4, h5⟩, h6, h7, h8, h9, h10⟩ := h
  refine ⟨⟨ptM_ed h1.1 f, hw, hfl, hl, ?_⟩, ⟨Or.inl i1, fun hl => absurd (i1.symm.trans hl) (by decide)⟩, ⟨Or.inl i2, fun hl => absurd (i2.symm.trans hl) (by decide)⟩, ?_, fun k q1 q2 => by rw [hwo k q1 q2]; decide, ?_, ?_, ?_⟩
  · rw [zfr_cell (a := a_mate) f (by decide)]; exact h1.2.2.2.2
  · unfold mPl; rw [zfr_cell (a := a_places) f (by decide)]; exact h6
  · rw [zfr_at (j := f_taped) f (by decide)]; exact h8
  · rw [zfr_at (j := f_outMany) f (by decide)]; exact h9
  · unfold mWd; rw [zfr_cell (a := a_words) f (by decide)]; exact h10
/-- points in other places -/
def eBlk (c g : Int → Int) : Int → Int := fun x => if 32 ≤ x ∧ x < 104 then c (32 + 9 * g ((x - 32) / 9) + (x - 32) % 9) else c x
def eN (c : Int → Int) (v : Int) : Int → Int := fun x => if x = 2 then v else c x
theorem eN_2 {c : Int → Int} {v : Int} : eN c v 2 = v := if_pos rfl
theorem eN_o {c : Int → Int} {v x : Int} (h : x ≠ 2) : eN c v x = c x := if_neg h
theorem eBlk_o {c g : Int → Int} {x : Int} (h : x < 32 ∨ 104 ≤ x) : eBlk c g x = c x := if_neg (by omega)
theorem eBlk_at {c g : Int → Int} {b k : Int} (h0 : 0 ≤ b) (h1 : b < 8) (k0 : 0 ≤ k) (k1 : k < 9) : eBlk c g (32 + 9 * b + k) = c (32 + 9 * g b + k) := by
  unfold eBlk
  rw [if_pos (by omega), show (32 + 9 * b + k - 32) / 9 = b by omega, show (32 + 9 * b + k - 32) % 9 = k by omega]
theorem eBlk_congr {c g g' : Int → Int} (h : ∀ b, 0 ≤ b → b < 8 → g b = g' b) : eBlk c g = eBlk c g' := by
  funext x
  unfold eBlk
  split
  · rw [h _ (by omega) (by omega)]
  · rfl
theorem eBlk_id {c : Int → Int} : eBlk c (fun b => b) = c := by
  funext x
  unfold eBlk
  split
  · dsimp only; congr 1; omega
  · rfl
theorem eBlk_shift {c g f : Int → Int} {s t : Int} (s0 : 0 ≤ s) (s1 : s < 8) (t0 : 0 ≤ t) (t1 : t < 8) (h1 : ∀ i, 0 ≤ i → i < 9 → f (32 + 9 * t + i) = eBlk c g (32 + 9 * s + i)) (h2 : ∀ x, (x < 32 + 9 * t ∨ 32 + 9 * t + 9 ≤ x) → f x = eBlk c g x) : f = eBlk c (fun b => if b = t then g s else g b) := by
  funext x
  by_cases e : x < 32 + 9 * t ∨ 32 + 9 * t + 9 ≤ x
  · rw [h2 x e]
    unfold eBlk
    split
    · dsimp only; rw [if_neg (by omega)]
    · rfl
  · have h := h1 (x - 32 - 9 * t) (by omega) (by omega)
    rw [show 32 + 9 * t + (x - 32 - 9 * t) = x by omega, eBlk_at s0 s1 (by omega) (by omega)] at h
    rw [h]
    unfold eBlk
    rw [if_pos (by omega)]
    dsimp only
    rw [if_pos (by omega), show (x - 32) % 9 = x - 32 - 9 * t by omega]
def gD (p q : Int) (b : Int) : Int := if p ≤ b ∧ b < q then b + 1 else b
theorem gD_0 {p : Int} : gD p p = fun b => b := by
  funext b
  unfold gD
  rw [if_neg (by omega)]
theorem eN_u {m : zM} {c : Int → Int} {v : Int} (h : m a_c = c) : zu m a_c 2 v a_c = eN c v := by
  funext x
  by_cases e : x = 2
  · rw [e, zu_s, eN_2]
  · rw [zu_j e, eN_o e, h]
theorem eN_wfC {c g : Int → Int} {v : Int} (hw : wfC c) (hv : 0 ≤ v ∧ v ≤ 8) (hg : ∀ b, 0 ≤ b → b < v → 0 ≤ g b ∧ g b < c 2) : wfC (eN (eBlk c g) v) := by
  obtain ⟨w1, w2, w3, w4, w5, w6⟩ := hw
  have e0 : eN (eBlk c g) v 0 = c 0 := by rw [eN_o (by decide), eBlk_o (by omega)]
  have e1 : eN (eBlk c g) v 1 = c 1 := by rw [eN_o (by decide), eBlk_o (by omega)]
  refine ⟨by rw [e0]; exact w1, by rw [e1]; exact w2, by rw [eN_2]; exact hv, fun f q0 q1 => ?_, fun k q0 q1 => ?_, fun p q0 q1 => ?_⟩
  · rw [e0] at q1
    rw [eN_o (by omega), eN_o (by omega), eN_o (by omega), eBlk_o (by omega), eBlk_o (by omega), eBlk_o (by omega)]
    exact w4 f q0 q1
  · rw [e1] at q1
    rw [e0, eN_o (by omega), eN_o (by omega), eBlk_o (by omega), eBlk_o (by omega)]
    exact w5 k q0 q1
  · rw [eN_2] at q1
    have hb := hg p q0 q1
    have h := w6 (g p) hb.1 hb.2
    have k0 : eN (eBlk c g) v (32 + 9 * p) = c (32 + 9 * g p) := by
      rw [eN_o (by omega)]
      have := eBlk_at (c := c) (g := g) (b := p) (k := 0) q0 (by omega) (by omega) (by omega)
      simpa using this
    rw [e0, k0, eN_o (by omega), eN_o (by omega), eBlk_at q0 (by omega) (by omega) (by omega), eBlk_at q0 (by omega) (by omega) (by omega)]
    refine ⟨h.1, h.2.1, h.2.2.1, fun k r0 r1 => ?_⟩
    have h4 := h.2.2.2 k r0 r1
    have hs := h.1
    rw [eN_o (by omega), Int.add_assoc, eBlk_at q0 (by omega) (by omega) (by omega), ← Int.add_assoc]
    exact h4
theorem eN_pre {c g : Int → Int} {v : Int} {n : Nat} (hn : (n : Int) ≤ 8) : cPre (eN (eBlk c g) v) n = zsum (fun q => c (32 + 9 * g q)) n 0 := by
  unfold cPre
  refine zsum_congr (fun i q0 q1 => ?_)
  rw [eN_o (by omega)]
  have := eBlk_at (c := c) (g := g) (b := i) (k := 0) q0 (by omega) (by omega) (by omega)
  simpa using this
theorem sum_drop {f : Int → Int} {p n : Int} (h0 : 0 ≤ p) (h1 : p < n) : zsum (fun q => f (gD p (n - 1) q)) (n - 1).toNat 0 = zsum f n.toNat 0 - f p := by
  obtain ⟨a, rfl⟩ : ∃ a : Nat, p = a := ⟨p.toNat, by omega⟩
  obtain ⟨b, rfl⟩ : ∃ b : Nat, n = a + 1 + b := ⟨(n - a - 1).toNat, by omega⟩
  rw [show ((a : Int) + 1 + (b : Int) - 1).toNat = a + b by omega, show ((a : Int) + 1 + (b : Int)).toNat = a + (b + 1) by omega, zsum_app, zsum_app, zsum_s]
  have e1 : zsum (fun q => f (gD a ((a : Int) + 1 + b - 1) q)) a 0 = zsum f a 0 := zsum_congr (fun i q0 q1 => by unfold gD; rw [if_neg (by omega)])
  have e2 : ∀ (j : Nat) (k : Int), (a : Int) ≤ k → k + j ≤ (a : Int) + b → zsum (fun q => f (gD a ((a : Int) + 1 + b - 1) q)) j k = zsum f j (k + 1) := by
    intro j
    induction j with
    | zero => intro k _ _; rfl
    | succ j ih =>
      intro k q0 q1
      rw [zsum_s, zsum_s, ih (k + 1) (by omega) (by omega)]
      unfold gD
      rw [if_pos (by omega)]
  rw [e1, e2 b (0 + a) (by omega) (by omega)]
  simp only [Int.zero_add]
  omega
def sDrop (T : zT) (p : Int) : Int := if ¬ (0 ≤ p ∧ p ≤ T.1 2 - 1) then 2 else 0
theorem l_drop (d : Nat) {E : zE} {m : zM} {P : Option zV → zM → Prop} (hE : shM E) (hm : ptM m) (p : Int) (hp0 : 0 ≤ p) (hw : wfC (m a_c))  : ∀ (j : Nat) (q : Int) (m1 : zM), (p ≤ q) → (q + j = m a_c 2 - 1) → (zfr [(a_c, none)] m m1) → (m1 a_c = eBlk (m a_c) (gD p q)) → (∀ m2, zfr [(a_c, none)] m m2 → m2 a_c = eBlk (m a_c) (gD p (m a_c 2 - 1)) → zA zX12_drop (d + 3) E E P 50 [zP aM, zI p, zN] [] m2 E) → zA zX12_drop (d + 3) E E P 24 [zP aM, zI p, zI q] [] m1 E := by
  intro j
  induction j with
  | zero =>
    intro q m1 h0 hq hf hc hP
    have hb3 := hw.2.2.1
    have hm1 : ptM m1 := ptM_ed hm (zfr_sub hf (by decide))
    have hn : m1 a_c 2 = m a_c 2 := by rw [hc]; exact eBlk_o (by omega)
    refine z_iload_n dX12_drop_24 rfl ?_
    refine z_iconst dX12_drop_25 (by decide) ?_
    refine z_add dX12_drop_26 (by omega) ?_
    refine z_aload_n dX12_drop_27 rfl ?_
    refine z_gP 0 rfl (r := a_c) flX12_7 dX12_drop_28 (sh_M hE) rfl (pt_c hm1) (by decide) ?_
    refine z_iconst dX12_drop_31 (by decide) ?_
    refine z_ialv dX12_drop_32 (sh_c hE) (by omega) (by omega) hn ?_
    refine z_icmp_ge (tgt := 50) dX12_drop_33 rfl (fun h33 => ?_) (fun h => absurd (by omega) h)
    refine zA_wk [_, _, zN] (by exact ⟨Or.inr rfl, Or.inr rfl, Or.inl rfl, trivial⟩) ?_
    exact hP m1 hf (by rw [hc, show q = m a_c 2 - 1 by omega])
  | succ j ih =>
    intro q m1 h0 hq hf hc hP
    have hb3 := hw.2.2.1
    have hm1 : ptM m1 := ptM_ed hm (zfr_sub hf (by decide))
    have hn : m1 a_c 2 = m a_c 2 := by rw [hc]; exact eBlk_o (by omega)
    refine z_iload_n dX12_drop_24 rfl ?_
    refine z_iconst dX12_drop_25 (by decide) ?_
    refine z_add dX12_drop_26 (by omega) ?_
    refine z_aload_n dX12_drop_27 rfl ?_
    refine z_gP 0 rfl (r := a_c) flX12_7 dX12_drop_28 (sh_M hE) rfl (pt_c hm1) (by decide) ?_
    refine z_iconst dX12_drop_31 (by decide) ?_
    refine z_ialv dX12_drop_32 (sh_c hE) (by omega) (by omega) hn ?_
    refine z_icmp_ge (tgt := 50) dX12_drop_33 rfl (fun h => absurd h (by omega)) (fun h33 => ?_)
    refine z_aload_n dX12_drop_36 rfl ?_
    refine z_iload_n dX12_drop_37 rfl ?_
    refine z_iconst dX12_drop_38 (by decide) ?_
    refine z_add dX12_drop_39 (by omega) ?_
    refine z_iload_n dX12_drop_40 rfl ?_
    refine z_callV mlX12_344 dX12_drop_41 (sh_M hE) (av := [_, _]) rfl rfl (Nat.le_of_ble_eq_true rfl) (r_shifts _ hE hm1 (q + 1) q (by omega) (by omega) (by omega) (by omega) (by omega)) (Nat.le_refl _) (Nat.le_refl _) (Nat.le_refl _) (Nat.le_refl _) ?_
    rintro _ m2 ⟨rfl, s1, s2, s3⟩
    have hm2 : ptM m2 := ptM_ed hm1 (zfr_sub s1 (by decide))
    refine z_inc dX12_drop_44 rfl (by omega) ?_
    refine z_goto (tgt := 24) dX12_drop_47 rfl ?_
    try dsimp only [zs0, zsI, zsP, zsN, zsJ, zsS, zst2, Nat.reduceAdd]
    refine ih (q + 1) m2 (by omega) (by omega) (zfr_tr hf s1) ?_ hP
    rw [hc] at s2 s3
    rw [eBlk_shift (s := q + 1) (t := q) (by omega) (by omega) (by omega) (by omega) s2 s3]
    exact eBlk_congr (fun b q1 q2 => by unfold gD; by_cases e : b = q; (rw [if_pos e, if_neg (by omega), if_pos (by omega)]; omega); (rw [if_neg e]; by_cases e2 : p ≤ b ∧ b < q; (rw [if_pos e2, if_pos (by omega)]); (rw [if_neg e2, if_neg (by omega)])))

theorem q_drop (d : Nat) {E : zE} {m : zM} (hE : shM E) (hI : mI m) (p : Int) : zR zX12_drop (d + 5) [zP aM, zI p] m E E (fun r m' => r = some (zI (if sDrop (mT m) p = 0 then m a_c 2 - 1 else -1)) ∧ mI m' ∧ zfr fEd m m' ∧ m' aM f_status = sDrop (mT m) p ∧ (sDrop (mT m) p = 0 → m' a_c = eN (eBlk (m a_c) (gD p (m a_c 2 - 1))) (m a_c 2 - 1) ∧ ∀ i, 0 ≤ i → i < 800 → m' a_worths i = 1) ∧ (sDrop (mT m) p ≠ 0 → mT m' = mT m ∧ m' a_worths = m a_worths)) := by
  have hm := hI.1.1
  obtain ⟨hw, hl, hn⟩ := mI_wl hI
  have hq0 := mQ_rf hI
  have eT0 : mT m = mT m := rfl
  have t4 : (mT m).2.2.2 = m aM f_letters := rfl
  have t0 : (mT m).1 0 = m a_c 0 := rfl
  have t1 : (mT m).1 1 = m a_c 1 := rfl
  have t2 : (mT m).1 2 = m a_c 2 := rfl
  have b1 := hw.1
  have b2 := hw.2.1
  have b3 := hw.2.2.1
  refine zR_go [zP aM, zI p, zN] (by decide +kernel) (Nat.le_of_ble_eq_true rfl) rfl rfl ?_
  refine z_aload_n dX12_drop_0 rfl ?_
  refine z_aload_n dX12_drop_1 rfl ?_
  refine z_iload_n dX12_drop_2 rfl ?_
  refine z_callV mlX12_332 dX12_drop_3 (sh_M hE) (av := [_]) rfl rfl (Nat.le_of_ble_eq_true rfl) (r_isPoint _ hE hm p hw) (Nat.le_refl _) (Nat.le_refl _) (Nat.le_refl _) (Nat.le_refl _) ?_
  rintro _ _ ⟨rfl, rfl⟩
  refine z_ifz_eq (tgt := 13) dX12_drop_6 rfl (fun h6 => ?_) (fun h6 => ?_)
  · refine z_iconst dX12_drop_13 (by decide) ?_
    refine z_callV mlX12_310 dX12_drop_14 (sh_M hE) (av := [_]) rfl rfl (Nat.le_of_ble_eq_true rfl) (r_is _ hE hm _) (Nat.le_refl _) (Nat.le_refl _) (Nat.le_refl _) (Nat.le_refl _) ?_
    rintro _ m1 ⟨rfl, e1⟩
    have hq1 : mQ m m1 2 := e1 ▸ mQ_is hq0
    have hI1 := hq1.1
    have hm1 := hI1.1.1
    have eT1 := mQ_T hq1
    have ec1 : m1 a_c = m a_c := congrArg (fun q => q.1) eT1
    have ec21 : m1 a_c 2 = m a_c 2 := congrFun ec1 2
    have ew1 : m1 a_what = m a_what := congrArg (fun q => q.2.1) eT1
    have ep1 : m1 a_pointOf = m a_pointOf := congrArg (fun q => q.2.2.1) eT1
    have en1 : m1 aM f_letters = m aM f_letters := congrArg (fun q => q.2.2.2) eT1
    obtain ⟨hw1, hl1, hn1⟩ := mI_wl hI1
    refine z_ifz_ne (tgt := 22) dX12_drop_17 rfl (fun h => absurd h (by decide)) (fun h17 => ?_)
    refine z_iconst dX12_drop_20 (by decide) ?_
    refine z_iret dX12_drop_21 rfl rfl ?_
    have eS : sDrop (mT m) p = 2 := by unfold sDrop; rw [if_pos (by omega)]
    rw [eS]
    exact ⟨rfl, hI1, zfr_sub hq1.2.1 (by decide), hq1.2.2, fun h => absurd h (by decide), fun _ => ⟨eT1, zfr_cell hq1.2.1 (by decide)⟩⟩
  · refine z_iconst dX12_drop_9 (by decide) ?_
    refine z_goto (tgt := 14) dX12_drop_10 rfl ?_
    refine z_callV mlX12_310 dX12_drop_14 (sh_M hE) (av := [_]) rfl rfl (Nat.le_of_ble_eq_true rfl) (r_is _ hE hm _) (Nat.le_refl _) (Nat.le_refl _) (Nat.le_refl _) (Nat.le_refl _) ?_
    rintro _ m1 ⟨rfl, e1⟩
    have hq1 : mQ m m1 0 := e1 ▸ mQ_is hq0
    have hI1 := hq1.1
    have hm1 := hI1.1.1
    have eT1 := mQ_T hq1
    have ec1 : m1 a_c = m a_c := congrArg (fun q => q.1) eT1
    have ec21 : m1 a_c 2 = m a_c 2 := congrFun ec1 2
    have ew1 : m1 a_what = m a_what := congrArg (fun q => q.2.1) eT1
    have ep1 : m1 a_pointOf = m a_pointOf := congrArg (fun q => q.2.2.1) eT1
    have en1 : m1 aM f_letters = m aM f_letters := congrArg (fun q => q.2.2.2) eT1
    obtain ⟨hw1, hl1, hn1⟩ := mI_wl hI1
    refine z_ifz_ne (tgt := 22) dX12_drop_17 rfl (fun h17 => ?_) (fun h => absurd (by decide) h)
    refine z_iload_n dX12_drop_22 rfl ?_
    refine z_ist 2 dX12_drop_23 rfl (Nat.le_of_ble_eq_true rfl) ?_
    try dsimp only [zs0, zsI, zsP, zsN, zsJ, zsS, zst2, Nat.reduceAdd]
    refine l_drop (d + 2) (m := m1) hE hm1 p (by omega) hw1 (m1 a_c 2 - 1 - p).toNat p m1 (by omega) (by omega) zfr_rf (by rw [gD_0]; exact eBlk_id.symm) (fun m2 b1 b2 => ?_)
    have hm2 : ptM m2 := ptM_ed hm1 (zfr_sub b1 (by decide))
    rw [ec1] at b2
    have hrg : ∀ b, 0 ≤ b → b < m a_c 2 - 1 → 0 ≤ gD p (m a_c 2 - 1) b ∧ gD p (m a_c 2 - 1) b < m a_c 2 := fun b q0 q1 => by unfold gD; split <;> omega
    have hw9 : wfC (eN (eBlk (m a_c) (gD p (m a_c 2 - 1))) (m a_c 2 - 1)) := eN_wfC hw (by omega) hrg
    have ht9 : cPre (eN (eBlk (m a_c) (gD p (m a_c 2 - 1))) (m a_c 2 - 1)) ((eN (eBlk (m a_c) (gD p (m a_c 2 - 1))) (m a_c 2 - 1)) 2).toNat ≤ 12 := by
      rw [eN_2, eN_pre (by omega)]
      rw [show zsum (fun q => m a_c (32 + 9 * gD p (m a_c 2 - 1) q)) (m a_c 2 - 1).toNat 0 = zsum (fun q => m a_c (32 + 9 * q)) (m a_c 2).toNat 0 - m a_c (32 + 9 * p) from sum_drop (f := fun q => m a_c (32 + 9 * q)) (by omega) (by omega)]
      have h1 := hI.1.2.2.1.1
      have h2 := hI.1.2.2.2.1
      have h3 := (hw.2.2.2.2.2 p (by omega) (by omega)).1
      unfold cPre at h1
      omega
    have hlow : m2 a_c 2 = m a_c 2 := by rw [b2]; exact eBlk_o (by omega)
    refine z_aload_n dX12_drop_50 rfl ?_
    refine z_gP 0 rfl (r := a_c) flX12_7 dX12_drop_51 (sh_M hE) rfl (pt_c hm2) (by decide) ?_
    refine z_iconst dX12_drop_54 (by decide) ?_
    refine z_dup2 dX12_drop_55 rfl rfl ?_
    refine z_ialv dX12_drop_56 (sh_c hE) (by omega) (by omega) hlow ?_
    refine z_iconst dX12_drop_57 (by decide) ?_
    refine z_sub dX12_drop_58 (by omega) ?_
    refine z_iast dX12_drop_59 (sh_c hE) (by omega) (by omega) ?_
    generalize em9 : zu m2 a_c 2 (m a_c 2 - 1) = m9
    have hc9 : m9 a_c = eN (eBlk (m a_c) (gD p (m a_c 2 - 1))) (m a_c 2 - 1) := by rw [← em9]; exact eN_u b2
    have h9 : ptM m9 := by rw [← em9]; exact ptM_a hm2 (by decide)
    have f9 : zfr fEd0 m1 m9 := by rw [← em9]; exact zfr_ua (zfr_sub b1 (by decide)) (by decide)
    refine z_aload_n dX12_drop_60 rfl ?_
    refine z_callV mlX12_347 dX12_drop_61 (sh_M hE) (av := _) rfl rfl (Nat.le_of_ble_eq_true rfl) (r_pointsChange _ hE h9 (by rw [hc9]; exact hw9) (by rw [hc9]; exact ht9)) (Nat.le_refl _) (Nat.le_refl _) (Nat.le_refl _) (Nat.le_refl _) ?_
    rintro _ mp ⟨rfl, g1, g2, g3, g4, g5⟩
    have gc : mp a_c = eN (eBlk (m a_c) (gD p (m a_c 2 - 1))) (m a_c 2 - 1) := (zfr_cell g1 (by decide)).trans hc9
    have hmp : ptM mp := ptM_ed h9 (zfr_sub g1 (by decide))
    have hfl : isFlat (mp a_c) (mp a_what) (mp a_pointOf) (mp aM f_letters) := by rw [zfr_cell (a := a_c) g1 (by decide)]; exact g2
    have hwp : wfC (mp a_c) := by rw [gc]; exact hw9
    have hlp : mp aM f_letters ≤ 12 := by rw [hfl.1, gc]; exact ht9
    have fp : zfr fEd0 m1 mp := zfr_tr f9 (zfr_sub g1 (by decide))
    have hIp := mI_new hI1 fp hwp hfl hlp g3 g4 g5
    have fq : zfr fEd m mp := zfr_tr (zfr_sub hq1.2.1 (by decide)) (zfr_sub fp (by decide))
    have hst : mp aM f_status = 0 := (zfr_at fp (by decide)).trans hq1.2.2
    refine z_aload_n dX12_drop_64 rfl ?_
    refine z_gP 0 rfl (r := a_c) flX12_7 dX12_drop_65 (sh_M hE) rfl (pt_c hmp) (by decide) ?_
    refine z_iconst dX12_drop_68 (by decide) ?_
    refine z_iald dX12_drop_69 (sh_c hE) (by omega) (by omega) ?_
    refine z_iret dX12_drop_70 rfl rfl ?_
    have eS : sDrop (mT m) p = 0 := by unfold sDrop; rw [if_neg (by omega)]
    rw [eS]
    refine ⟨?_, hIp, fq, hst, fun _ => ⟨gc, g5⟩, fun h => absurd rfl h⟩
    rw [if_pos rfl, gc, eN_2]
