/-! the graph of codes that lie at hand; what a query leaves -/
theorem gR_congr {L : Nat} {fr to' fr2 to2 : Nat → Nat} {sk sk2 : Nat → Bool} {p : Nat} (h : ∀ k, k < L → fr k = fr2 k ∧ to' k = to2 k ∧ sk k = sk2 k) : gR L fr to' sk p = gR L fr2 to2 sk2 p := by
  have hc : ∀ S, gClosed L fr to' sk S ↔ gClosed L fr2 to2 sk2 S := fun S => by
    constructor
    · intro hS k hk hs
      have := h k hk
      rw [← this.1, ← this.2.1]
      exact hS k hk (by rw [this.2.2]; exact hs)
    · intro hS k hk hs
      have := h k hk
      rw [this.1, this.2.1]
      exact hS k hk (by rw [← this.2.2]; exact hs)
  have he : ∀ S, gReach L fr to' sk p S ↔ gReach L fr2 to2 sk2 p S := fun S => by
    unfold gReach
    simp only [hc]
  have hp : gReach L fr to' sk p = gReach L fr2 to2 sk2 p := by funext S; exact propext (he S)
  unfold gR
  rw [hp]
def mOp (m : zM) (co : Int → Int) (h : Nat) : Prop := m aM f_lines = (h : Int) ∧ h ≤ 6 ∧ (∀ i : Int, 0 ≤ i → i < h → m a_codes i = co i) ∧ ∀ i : Int, 0 ≤ i → i < h → cCodeOk (m a_c) (co i) = true
theorem mOp_ln {m : zM} {co : Int → Int} {h : Nat} (ho : mOp m co h) : 0 ≤ m aM f_lines ∧ m aM f_lines ≤ 6 := by have := ho.1; have := ho.2.1; omega
theorem mOp_rg {m : zM} {co : Int → Int} {h : Nat} (hw : wfC (m a_c)) (ho : mOp m co h) : ∀ k : Nat, (k : Int) < m aM f_lines → 0 ≤ m a_codes k ∧ gFr (m a_codes) k < 8 ∧ gTo (m a_codes) k < 8 := fun k hk => by
  have h1 := ho.1
  have h3 := ho.2.2.1 k (by omega) (by omega)
  have h4 := cCodeOk_rg hw (ho.2.2.2 k (by omega) (by omega))
  have := hw.2.2.1
  unfold gFr gTo
  rw [h3]
  exact ⟨h4.1, by omega, by omega⟩
theorem mOp_rg2 {m : zM} {co : Int → Int} {h : Nat} (hw : wfC (m a_c)) (ho : mOp m co h) : ∀ k : Int, 0 ≤ k → k < m aM f_lines → 0 ≤ m a_codes k ∧ m a_codes k / 100 < m a_c 2 ∧ m a_codes k / 10 % 10 < m a_c 2 := fun k h0 hk => by
  have h1 := ho.1
  have h3 := ho.2.2.1 k (by omega) (by omega)
  have h4 := cCodeOk_rg hw (ho.2.2.2 k (by omega) (by omega))
  rw [h3]
  omega
theorem mOp_R {m : zM} {co : Int → Int} {h : Nat} (ho : mOp m co h) (wl wp : Int) : gR (m aM f_lines).toNat (gFr (m a_codes)) (gTo (m a_codes)) (gSk (m a_codes) wl wp) = tR h co wl wp := by
  funext p
  unfold tR
  have e : (m aM f_lines).toNat = h := by have := ho.1; omega
  rw [e]
  refine gR_congr (fun k hk => ?_)
  have h3 := ho.2.2.1 k (by omega) (by omega)
  unfold gSk gFr gTo
  rw [h3]
  exact ⟨rfl, rfl, rfl⟩
theorem mOp_fr {m m' : zM} {co : Int → Int} {h : Nat} (ho : mOp m co h) (h1 : m' aM f_lines = m aM f_lines) (h2 : m' a_codes = m a_codes) (h3 : m' a_c = m a_c) : mOp m' co h := by
  unfold mOp at ho ⊢
  rw [h1, h2, h3]
  exact ho
noncomputable def tLoops (c : Int → Int) (h : Nat) (co : Int → Int) : Int := (h : Int) + (tParts h co (-1) (tAll c) : Nat) - c 2
noncomputable def tBridges (c : Int → Int) (h : Nat) (co : Int → Int) : Int := zsum (fun k => zb ((tParts h co (-1) (tAll c) : Int) < tParts h co k (tAll c))) h 0
def tRings (h : Nat) (co : Int → Int) : Int := zsum (fun k => zb (co k / 100 = co k / 10 % 10)) h 0
theorem tAll_lt {c : Int → Int} (hw : wfC c) : tAll c < 256 := by
  have := hw.2.2.1
  unfold tAll
  have : 2 ^ (c 2).toNat ≤ 2 ^ 8 := Nat.pow_le_pow_right (by decide) (by omega)
  omega
/-! what a query leaves -/
def fQ : List (Int × Option Int) := (aM, some f_status) :: (aM, some f_thrown) :: (a_subs, none) :: (aM, some f_subPoints) :: fNames
/-- what a query works with, the status left -/
def fW : List (Int × Option Int) := [(a_codes, none), (aM, some f_lines), (a_moved, none), (aM, some f_leastName), (aM, some f_sameNames), (aM, some f_wantedName), (a_subs, none), (aM, some f_subPoints)]
def mQ (m m' : zM) (st : Int) : Prop := mI m' ∧ zfr fQ m m' ∧ m' aM f_status = st
theorem mQ_S {m : zM} {w : Int} (h : mI m) : mQ m (mS m w) w := ⟨mI_S h, fr_S (by decide) (by decide), zu_s⟩
theorem mQ_st {m m1 : zM} {w w' : Int} (h : mQ m m1 w) : mQ m (zu m1 aM f_status w') w' := ⟨mI_fr h.1 (zfr_uj zfr_rf (by decide)), zfr_uj h.2.1 (by decide), zu_s⟩
theorem mQ_is {m m1 : zM} {w w' : Int} (h : mQ m m1 w) : mQ m (mS m1 w') w' := ⟨mI_S h.1, zfr_tr h.2.1 (fr_S (by decide) (by decide)), zu_s⟩
theorem mQ_rf {m : zM} (h : mI m) : mQ m m (m aM f_status) := ⟨h, zfr_rf, rfl⟩
theorem mQ_T {m m1 : zM} {st : Int} (h : mQ m m1 st) : mT m1 = mT m := mT_fr h.2.1 (by decide)
theorem mQ_lays {m m1 m2 : zM} {st : Int} (h : mQ m m1 st) (hi : mI m2) (f : zfr fLays m1 m2) : mQ m m2 st := ⟨hi, zfr_tr h.2.1 (zfr_sub f (by decide)), (zfr_at f (by decide)).trans h.2.2⟩
theorem mQ_names {m m1 m2 : zM} {st : Int} (h : mQ m m1 st) (hi : mI m2) (f : zfr fNames m1 m2) : mQ m m2 st := ⟨hi, zfr_tr h.2.1 (zfr_sub f (by decide)), (zfr_at f (by decide)).trans h.2.2⟩
theorem mQ_fr {m m1 m2 : zM} {st : Int} (h : mQ m m1 st) (f : zfr fW m1 m2) : mQ m m2 st := ⟨mI_fr h.1 (zfr_sub f (by decide)), zfr_tr h.2.1 (zfr_sub f (by decide)), (zfr_at f (by decide)).trans h.2.2⟩
theorem mL_kept {m m1 : zM} (f : zfr fW m m1) (h : mL m) : mL m1 := mL_of h (mT_fr f (by decide)) (zfr_at f (by decide)) (zfr_cell f (by decide)) (zfr_cell f (by decide)) (zfr_cell f (by decide)) (zfr_cell f (by decide))
theorem mN_keptW {m m1 : zM} (f : zfr fW m m1) (h : mN m) : mN m1 := mN_of h (mT_fr f (by decide)) (zfr_at f (by decide)) (zfr_cell f (by decide)) (zfr_cell f (by decide))
theorem mL_S {m : zM} {w : Int} (h : mL m) : mL (mS m w) := mL_of h (mT_fr (F := fFree) (fr_S (by decide) (by decide)) (by decide)) ((zu_j (by decide)).trans (zu_j (by decide))) ((zu_fn (by decide)).trans (zu_fn (by decide))) ((zu_fn (by decide)).trans (zu_fn (by decide))) ((zu_fn (by decide)).trans (zu_fn (by decide))) ((zu_fn (by decide)).trans (zu_fn (by decide)))
theorem mN_S {m : zM} {w : Int} (h : mN m) : mN (mS m w) := mN_of h (mT_fr (F := fFree) (fr_S (by decide) (by decide)) (by decide)) ((zu_j (by decide)).trans (zu_j (by decide))) ((zu_fn (by decide)).trans (zu_fn (by decide))) ((zu_fn (by decide)).trans (zu_fn (by decide)))
theorem q_lays (d : Nat) {E : zE} {m : zM} (hE : shM E) (h : mI m) : zR zX12_lays (d + 10) [zP aM] m E E (fun r m' => r = none ∧ mI m' ∧ zfr fLays m m' ∧ mL m') :=
  zR_imp (r_lays d hE h.1.1 h.1 h.2.1.1 h.2.1.2) (fun r m' g => ⟨g.1, mI_lays h g.2.1 g.2.2.1 g.2.2.2.1 g.2.2.2.2, g.2.1, g.2.2.2.1⟩)
theorem q_names (d : Nat) {E : zE} {m : zM} (hE : shM E) (h : mI m) : zR zX12_laysNames (d + 13) [zP aM] m E E (fun r m' => r = none ∧ mI m' ∧ zfr fNames m m' ∧ mL m' ∧ mN m') :=
  zR_imp (r_laysNames d hE h.1.1 h.1 h.2.1.1 h.2.1.2 h.2.2.1.1 h.2.2.1.2 h.2.2.2.1) (fun r m' g => ⟨g.1, mI_names h g.2.1 g.2.2.1 g.2.2.2.1 g.2.2.2.2.1 g.2.2.2.2.2.1 g.2.2.2.2.2.2.1 g.2.2.2.2.2.2.2, g.2.1, g.2.2.2.2.1, g.2.2.2.2.2.2.1⟩)
theorem q_reached (d : Nat) {E : zE} {m : zM} {co : Int → Int} {h : Nat} (hE : shM E) (hm : ptM m) (hw : wfC (m a_c)) (ho : mOp m co h) (p : Nat) (wl wp : Int) (hp : p < 8) : zR zX12_reached (d + 1) [zP aM, zI (p : Nat), zI wl, zI wp] m E E (fun r m' => r = some (zI (tR h co wl wp p : Nat)) ∧ m = m') := by
  have := r_reached d hE hm p wl wp hp (mOp_ln ho) (mOp_rg hw ho)
  simp only [mOp_R ho] at this
  exact this
theorem q_partsOf (d : Nat) {E : zE} {m : zM} {co : Int → Int} {h : Nat} (hE : shM E) (hm : ptM m) (hw : wfC (m a_c)) (ho : mOp m co h) (pts : Nat) (wl : Int) (hp : pts < 256) : zR zX12_partsOf (d + 2) [zP aM, zI (pts : Nat), zI wl] m E E (fun r m' => r = some (zI (tParts h co wl pts : Nat)) ∧ m = m') := by
  have := r_partsOf d hE hm pts wl hp (mOp_ln ho) (mOp_rg hw ho)
  simp only [mOp_R ho] at this
  exact this
theorem q_lost (d : Nat) {E : zE} {m : zM} {co : Int → Int} {h : Nat} (hE : shM E) (hm : ptM m) (hw : wfC (m a_c)) (ho : mOp m co h) (pts : Nat) (hp : pts < 256) : zR zX12_lost (d + 3) [zP aM, zI (pts : Nat)] m E E (fun r m' => r = some (zI (tLost (m a_c) h co pts : Nat)) ∧ m = m') := by
  have := r_lost d hE hm pts hp (mOp_ln ho) (mOp_rg hw ho) hw
  simp only [mOp_R ho] at this
  exact this
theorem q_loops (d : Nat) {E : zE} {m : zM} {co : Int → Int} {h : Nat} (hE : shM E) (hm : ptM m) (hw : wfC (m a_c)) (ho : mOp m co h) : zR zX12_loops (d + 3) [zP aM] m E E (fun r m' => r = some (zI (tLoops (m a_c) h co)) ∧ m = m') := by
  have := r_loops d hE hm (mOp_ln ho) (mOp_rg hw ho) hw
  simp only [mOp_R ho] at this
  rw [ho.1] at this
  exact this
theorem q_bridges (d : Nat) {E : zE} {m : zM} {co : Int → Int} {h : Nat} (hE : shM E) (hm : ptM m) (hw : wfC (m a_c)) (ho : mOp m co h) : zR zX12_bridges (d + 3) [zP aM] m E E (fun r m' => r = some (zI (tBridges (m a_c) h co)) ∧ m = m') := by
  have := r_bridges d hE hm (mOp_ln ho) (mOp_rg hw ho) hw
  simp only [mOp_R ho] at this
  rw [show (m aM f_lines).toNat = h by have := ho.1; omega] at this
  exact this
theorem q_rings (d : Nat) {E : zE} {m : zM} {co : Int → Int} {h : Nat} (hE : shM E) (hm : ptM m) (hw : wfC (m a_c)) (ho : mOp m co h) : zR zX12_rings (d + 1) [zP aM] m E E (fun r m' => r = some (zI (tRings h co)) ∧ m = m') := by
  have := r_rings d hE hm (mOp_ln ho) (mOp_rg hw ho)
  rw [show (m aM f_lines).toNat = h by have := ho.1; omega] at this
  have e : zsum (fun k => zb (m a_codes k / 100 = m a_codes k / 10 % 10)) h 0 = tRings h co := zsum_congr (fun i q1 q2 => by rw [ho.2.2.1 i q1 (by omega)])
  rw [e] at this
  exact this
