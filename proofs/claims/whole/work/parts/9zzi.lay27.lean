/-! how many changes leave a row as it is: the same all over its images -/
theorem chP_ext {n ch ch' : Nat} (h1 : ch < 2 ^ (3 * n)) (h2 : ch' < 2 ^ (3 * n)) (e : ∀ x : Nat, x < n → chP ch (x : Int) = chP ch' (x : Int)) : ch = ch' := by
  refine zset_ext (fun t => ?_)
  by_cases ht : t / 3 < n
  · have g := e (t / 3) ht
    unfold chP at g
    rw [Int.toNat_natCast] at g
    have g2 : ch / 2 ^ (3 * (t / 3)) % 8 = ch' / 2 ^ (3 * (t / 3)) % 8 := by omega
    have g3 := congrArg (fun z : Nat => z.testBit (t % 3)) g2
    rw [oct_bit, oct_bit, decide_eq_true (show t % 3 < 3 by omega), Bool.true_and, Bool.true_and, show t % 3 + 3 * (t / 3) = t by omega] at g3
    exact g3
  · have hp : 2 ^ (3 * n) ≤ 2 ^ t := Nat.pow_le_pow_right (by decide) (by omega)
    rw [Nat.testBit_lt_two_pow (Nat.lt_of_lt_of_le h1 hp), Nat.testBit_lt_two_pow (Nat.lt_of_lt_of_le h2 hp)]
theorem sCat_nodup {α : Type} {g : Int → List α} : ∀ (s : Nat) (k : Int), (∀ j, k ≤ j → j < k + s → (g j).Nodup) → (∀ i j x, k ≤ i → i < k + s → k ≤ j → j < k + s → x ∈ g i → x ∈ g j → i = j) → (sCat g s k).Nodup
  | 0, _, _, _ => List.nodup_nil
  | s + 1, k, h, hd => by
    rw [sCat_s, List.nodup_append]
    refine ⟨h k (by omega) (by omega), sCat_nodup s (k + 1) (fun j j1 j2 => h j (by omega) (by omega)) (fun i j x i1 i2 j1 j2 => hd i j x (by omega) (by omega) (by omega) (by omega)), fun a ha b hb e => ?_⟩
    obtain ⟨j, j1, j2, j3⟩ := sCat_mem hb
    have := hd k j a (by omega) (by omega) (by omega) (by omega) ha (by rw [e]; exact j3)
    omega
theorem sCh_nd {nP : Nat} {al : Int → Int → Bool} (hn : nP ≤ 8) : ∀ (s p used ch : Nat), p + s = nP → ch < 2 ^ (3 * p) → (sCh nP al s p used ch).Nodup
  | 0, p, used, ch, _, _ => List.nodup_cons.mpr ⟨by simp, List.nodup_nil⟩
  | s + 1, p, used, ch, hp, hc => by
    rw [sCh_s]
    have key : ∀ (i : Int) (x : Nat), 0 ≤ i → i < 0 + (nP : Int) → x ∈ gCh nP al s p used ch i → chP x (p : Int) = i := fun i x i0 i1 hx => by
      obtain ⟨qn, rfl⟩ := Int.eq_ofNat_of_zero_le i0
      unfold gCh at hx
      split at hx
      · rw [Int.toNat_natCast] at hx
        rw [(sCh_mem hn s (p + 1) _ _ x (by omega) (ch_lt hc (by omega)) hx).1 p (by omega), chP_hi hc (by omega)]
      · cases hx
    refine sCat_nodup nP 0 (fun j j0 j1 => ?_) (fun i j x i0 i1 j0 j1 a b => ?_)
    · obtain ⟨qn, rfl⟩ := Int.eq_ofNat_of_zero_le j0
      unfold gCh
      split
      · rw [Int.toNat_natCast]
        exact sCh_nd hn s (p + 1) _ _ (by omega) (ch_lt hc (by omega))
      · exact List.nodup_nil
    · rw [← key i x i0 i1 a, ← key j x j0 j1 b]
theorem lS_erase {g : Nat → Int} : ∀ {l : List Nat} {x : Nat}, x ∈ l → lS g l = g x + lS g (l.erase x)
  | [], x, h => by cases h
  | y :: l, x, h => by
    by_cases e : y = x
    · rw [e, List.erase_cons_head]
      rfl
    · rw [List.erase_cons_tail (by simpa using e)]
      show g y + lS g l = g x + (g y + lS g (l.erase x))
      rw [lS_erase (l := l) (x := x) (by
        rcases List.mem_cons.mp h with z | z
        · exact absurd z.symm e
        · exact z)]
      omega
theorem lS_bij {g : Nat → Int} {f : Nat → Nat} : ∀ (l1 l2 : List Nat), l1.Nodup → l1.length = l2.length → (∀ x ∈ l1, f x ∈ l2) → (∀ x ∈ l1, ∀ y ∈ l1, f x = f y → x = y) → lS g l2 = lS (fun x => g (f x)) l1
  | [], l2, _, h, _, _ => by
    rw [List.length_eq_zero_iff.mp h.symm]
    rfl
  | x :: l1, l2, hn, hl, hm, hi => by
    have hx := hm x List.mem_cons_self
    have hn2 := List.nodup_cons.mp hn
    rw [lS_erase hx]
    show _ = g (f x) + lS (fun x => g (f x)) l1
    rw [lS_bij (g := g) (f := f) l1 (l2.erase (f x)) hn2.2 (by rw [List.length_erase_of_mem hx, ← hl]; simp) (fun y hy => ?_) (fun y hy z hz => hi y (List.mem_cons_of_mem _ hy) z (List.mem_cons_of_mem _ hz))]
    have hne : f y ≠ f x := fun e => hn2.1 (by rw [← hi y (List.mem_cons_of_mem _ hy) x List.mem_cons_self e]; exact hy)
    exact (List.mem_erase_of_ne hne).mpr (hm y (List.mem_cons_of_mem _ hy))
theorem sSame_map {V : Nat → Int} {w : Int} : ∀ l : List Nat, sSame w (l.map V) = lS (fun ch => zb (V ch = w)) l
  | [] => rfl
  | x :: l => by
    show zb _ + sSame w (l.map V) = zb _ + lS _ l
    rw [sSame_map l]
/-- there and back -/
theorem row_back {c g g2 τ σ : Int → Int} {h : Nat} (hw : wfC c) (hr : cRow c g h) (hr2 : cRow c g2 h) (hτ : gPA c τ) (hσ : gPA c σ) (hi : ∀ x : Int, 0 ≤ x → x < c 2 → σ (τ x) = x) (e : sPk g2 h = sV c g h τ) : sPk g h = sV c g2 h σ ∧ pm g2 (fun k => cImg c τ (g k)) h := by
  obtain ⟨g', e1, r1, p1⟩ := sV_row2 hw hr hτ
  have eg : ∀ i : Int, 0 ≤ i → i < h → g2 i = g' i := sPk_inj (cRow_rg hw hr2) (cRow_rg hw r1) (by rw [e, e1])
  have p2 : pm g2 (fun k => cImg c τ (g k)) h := pm_tr (pm_eq eg) p1
  refine ⟨?_, p2⟩
  rw [sV_co2 hw hr hτ hσ p2, ← sV_id hr]
  unfold sV
  refine sKey_congr (fun i i0 i1 => ?_)
  have hg := cCodeOk_rg hw (hr.1 i i0 i1)
  exact cImg_congr (hi _ (by omega) hg.2.1).symm (hi _ (by omega) hg.2.2.1).symm
theorem fix_iff {c g g2 π τ σ : Int → Int} {h : Nat} (hw : wfC c) (hr : cRow c g h) (hr2 : cRow c g2 h) (hπ : gPA c π) (hτ : gPA c τ) (hσ : gPA c σ) (hi : ∀ x : Int, 0 ≤ x → x < c 2 → σ (τ x) = x) (e : sPk g2 h = sV c g h τ) {ψ : Int → Int} (hψ : gPA c ψ) (eψ : ∀ x : Int, 0 ≤ x → x < c 2 → ψ (τ x) = τ (π x)) : sV c g2 h ψ = sPk g2 h ↔ sV c g h π = sPk g h := by
  obtain ⟨b1, p2⟩ := row_back hw hr hr2 hτ hσ hi e
  obtain ⟨g', e1, r1, p1⟩ := sV_row2 hw hr hπ
  have k1 : sV c g2 h ψ = sV c g' h τ := by
    rw [sV_co2 hw hr hτ hψ p2, sV_co2 hw hr hπ hτ p1]
    unfold sV
    refine sKey_congr (fun i i0 i1 => ?_)
    have hg := cCodeOk_rg hw (hr.1 i i0 i1)
    exact cImg_congr (eψ _ (by omega) hg.2.1) (eψ _ (by omega) hg.2.2.1)
  rw [k1, e1]
  constructor
  · intro z
    have b2 := (row_back hw r1 hr2 hτ hσ hi z.symm).1
    rw [b2, ← b1]
  · intro z
    have eg := sPk_inj (cRow_rg hw r1) (cRow_rg hw hr) z
    rw [e, sV_co eg]
theorem fix_same {T : zT} {g g2 τ : Int → Int} (hw : wfC T.1) (hr : cRow T.1 g (tH T)) (hr2 : cRow T.1 g2 (tH T)) (hτ : gPA T.1 τ) (e : sPk g2 (tH T) = sV T.1 g (tH T) τ) : sSame (sPk g2 (tH T)) (imgs T g2) = sSame (sPk g (tH T)) (imgs T g) := by
  have hc2 := hw.2.2.1
  obtain ⟨σ, hσ, hi⟩ := gPA_iv hτ
  have hi2 : ∀ x : Int, 0 ≤ x → x < T.1 2 → τ (σ x) = x := fun x x0 x1 => by
    obtain ⟨y, y0, y1, ey⟩ := gPA_on hτ x0 x1
    rw [← ey, hi y y0 y1]
  have key : ∀ ch : Nat, ∃ ch', ch ∈ allCh T.1 → ch' ∈ allCh T.1 ∧ ∀ x : Nat, x < (T.1 2).toNat → chP ch' (x : Int) = τ (chP ch (σ (x : Int))) := fun ch => by
    by_cases z : ch ∈ allCh T.1
    · have hp := (allCh_in hw z).1
      obtain ⟨ch', m1, m2⟩ := sCh_all (al := cAlike T.1) (nP := (T.1 2).toNat) (by omega) (π := fun x => τ (chP ch (σ x))) (T.1 2).toNat 0 0 0 (by omega) (by decide) (pl_gPA.mpr (gPA_co (gPA_co hσ hp) hτ))
      exact ⟨ch', fun _ => ⟨m1, fun x hx => m2 x (by omega) hx⟩⟩
    · exact ⟨0, fun y => absurd y z⟩
  have spec := fun ch => Classical.choose_spec (key ch)
  unfold imgs
  rw [sSame_map, sSame_map]
  rw [lS_bij (f := fun ch => Classical.choose (key ch)) (allCh T.1) (allCh T.1) (sCh_nd (by omega) _ 0 0 0 (by omega) (by decide)) rfl (fun x hx => (spec x hx).1) (fun x hx y hy exy => ?_)]
  · have aux : ∀ l : List Nat, (∀ ch ∈ l, ch ∈ allCh T.1) → lS (fun x => zb (sV T.1 g2 (tH T) (chP (Classical.choose (key x))) = sPk g2 (tH T))) l = lS (fun ch => zb (sV T.1 g (tH T) (chP ch) = sPk g (tH T))) l := fun l => by
      induction l with
      | nil => intro _; rfl
      | cons x l ih =>
        intro hl
        show zb _ + lS _ l = zb _ + lS _ l
        rw [ih (fun y hy => hl y (List.mem_cons_of_mem _ hy))]
        have hx := hl x List.mem_cons_self
        have sx := spec x hx
        have hp := (allCh_in hw hx).1
        congr 1
        refine zb_congr (fix_iff hw hr hr2 hp hτ hσ hi e (allCh_in hw sx.1).1 (fun y y0 y1 => ?_))
        have ty := (gPA_at hτ y0 y1).1
        have := sx.2 (τ y).toNat (by omega)
        rw [show (((τ y).toNat : Nat) : Int) = τ y by omega, hi y y0 y1] at this
        exact this
    exact aux _ (fun _ h => h)
  · have exy : Classical.choose (key x) = Classical.choose (key y) := exy
    have sx := spec x hx
    have sy := spec y hy
    rw [← exy] at sy
    have bx := (sCh_mem (al := cAlike T.1) (nP := (T.1 2).toNat) (by omega) (T.1 2).toNat 0 0 0 x (by omega) (by decide) hx).2.2
    have by' := (sCh_mem (al := cAlike T.1) (nP := (T.1 2).toNat) (by omega) (T.1 2).toNat 0 0 0 y (by omega) (by decide) hy).2.2
    refine chP_ext bx by' (fun z hz => ?_)
    have tz := (gPA_at hτ (show (0 : Int) ≤ (z : Int) by omega) (by omega)).1
    have h1 := sx.2 (τ (z : Int)).toNat (by omega)
    have h2 := sy.2 (τ (z : Int)).toNat (by omega)
    rw [show (((τ (z : Int)).toNat : Nat) : Int) = τ (z : Int) by omega, hi _ (by omega) (by omega)] at h1 h2
    have px := (gPA_at (allCh_in hw hx).1 (show (0 : Int) ≤ (z : Int) by omega) (by omega)).1
    have py := (gPA_at (allCh_in hw hy).1 (show (0 : Int) ≤ (z : Int) by omega) (by omega)).1
    exact (gPA_at hτ px.1 px.2).2.2 _ py.1 py.2 (by rw [← h1, ← h2])
/-- as the model counts it -/
theorem plc_all {T : zT} {g : Int → Int} (hw : wfC T.1) (hr : ∀ i : Int, 0 ≤ i → i < tH T → cCodeOk T.1 (g i) = true) : sPlc (T.1 2).toNat (cAlike T.1) (sV T.1 g (tH T)) (T.1 2).toNat 0 0 (fun _ => 0) = imgs T g := by
  have hc2 := hw.2.2.1
  exact plc_map (by omega) (fun π π' h => by
    unfold sV
    refine sKey_congr (fun i i0 i1 => ?_)
    have hg := cCodeOk_rg hw (hr i i0 i1)
    have e : ∀ x : Int, 0 ≤ x → x < T.1 2 → π x = π' x := fun x x0 x1 => by
      have := h x.toNat (by omega)
      rw [show ((x.toNat : Nat) : Int) = x by omega] at this
      exact this
    exact cImg_congr (e _ (by omega) hg.2.1) (e _ (by omega) hg.2.2.1)) (T.1 2).toNat 0 0 0 _ (by omega) (by decide) (fun x hx => by omega)
theorem fx_is {T : zT} (hw : wfC T.1) (hl : wfL T.1 T.2.1 T.2.2.1 T.2.2.2) {r : Int → Int} (h : sFull T.2.2.2.toNat (cMay T.1 T.2.1 T.2.2.1) r) : sSame (tKy T r) (imgs T (rowF T r)) = sSame (tName T r) (sPlc (T.1 2).toNat (cAlike T.1) (sV T.1 (uF (tName T r) (tH T)) (tH T)) (T.1 2).toNat 0 0 (fun _ => 0)) := by
  obtain ⟨g, g1, g2, g3⟩ := row_g hw hl h
  obtain ⟨⟨a, a1, a2⟩, -⟩ := sNM_is hw g2
  have en : tName T r = sNM T.1 (tH T) (sPk g (tH T)) := by rw [← g1]; rfl
  obtain ⟨gN, n1, n2⟩ := sNM_row hw g2
  have eu : ∀ i : Int, 0 ≤ i → i < tH T → uF (tName T r) (tH T) i = gN i := fun i i0 i1 => by
    rw [en, n1]
    exact uF_eq (cRow_rg hw n2) i0 i1
  rw [plc_all hw (fun i i0 i1 => by rw [eu i i0 i1]; exact n2.1 i i0 i1), imgs_pm (pm_eq eu), en, n1, fix_same hw g2 n2 a1 (by rw [← n1]; exact a2), g1, imgs_pm g3]
