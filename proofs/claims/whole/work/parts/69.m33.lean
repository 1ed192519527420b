/-- pairings of some letters: those that are not in A go with themselves here, with none in the row -/
def sMk (A : Nat) (mt : Int → Int) : Int → Int := fun x => if 0 ≤ x ∧ x < 12 then (if A.testBit x.toNat = true then mt x else -1) else 0
def sPA (n : Nat) (may : Int → Int → Bool) (A : Nat) (mt : Int → Int) : Prop := ∀ i : Int, 0 ≤ i → i < n → (A.testBit i.toNat = true → -1 ≤ mt i ∧ (0 ≤ mt i → mt i < n ∧ mt i ≠ i ∧ A.testBit (mt i).toNat = true ∧ mt (mt i) = i ∧ (i < mt i → may i (mt i) = true))) ∧ (A.testBit i.toNat = false → mt i = i)
theorem sPA_in {n : Nat} {may : Int → Int → Bool} {A : Nat} {mt : Int → Int} (h : sPA n may A mt) {i : Int} (h0 : 0 ≤ i) (h1 : i < n) (hf : mt i < 0) : A.testBit i.toNat = true ∧ mt i = -1 := by
  cases e : A.testBit i.toNat with
  | false => have := (h i h0 h1).2 e; omega
  | true => exact ⟨rfl, by have := ((h i h0 h1).1 e).1; omega⟩
theorem sMk_lt {n : Nat} {may : Int → Int → Bool} {A : Nat} {mt : Int → Int} (h : sPA n may A mt) {x : Int} (h0 : 0 ≤ x) (h1 : x < n) (hn : n ≤ 12) : (A.testBit x.toNat = true ∧ sMk A mt x < 0) ↔ mt x < 0 := by
  unfold sMk
  rw [if_pos ⟨h0, by omega⟩]
  constructor
  · rintro ⟨a, b⟩
    rw [if_pos a] at b
    exact b
  · intro b
    have a := sPA_in h h0 h1 b
    exact ⟨a.1, by rw [if_pos a.1]; exact b⟩
theorem sMk_fst {m : zM} {A : Nat} {may : Int → Int → Bool} {mt : Int → Int} (hn : 0 ≤ m aM f_letters ∧ m aM f_letters ≤ 12) (hrel : m a_mate = sMk A mt) (hpa : sPA (m aM f_letters).toNat may A mt) : zfst (fun i => A.testBit i.toNat && decide (m a_mate i < 0)) (m aM f_letters).toNat 0 = sFst mt (m aM f_letters).toNat := by
  unfold sFst
  refine zfst_congr (fun i q1 q2 => ?_)
  rw [hrel]
  have := sMk_lt hpa q1 (by omega) (by omega)
  by_cases e : mt i < 0
  · have g := this.mpr e
    rw [g.1, decide_eq_true g.2, decide_eq_true e]; rfl
  · rw [decide_eq_false e]
    cases a : A.testBit i.toNat with
    | false => rfl
    | true => rw [Bool.true_and, decide_eq_false]; exact fun h => e (this.mp ⟨a, h⟩)
theorem sMk_up {A : Nat} {mt : Int → Int} {i k : Int} (hi : 0 ≤ i) (hi2 : i < 12) (hk : 0 ≤ k) (hk2 : k < 12) (ai : A.testBit i.toNat = true) (ak : A.testBit k.toNat = true) : sUp (sMk A mt) i k = sMk A (sUp mt i k) := by
  funext x
  unfold sUp sMk
  dsimp only
  by_cases e : x = k
  · subst e; rw [if_pos rfl, if_pos ⟨hk, hk2⟩, if_pos ak, if_pos rfl]
  · rw [if_neg e]
    by_cases e2 : x = i
    · subst e2; rw [if_pos rfl, if_pos ⟨hi, hi2⟩, if_pos ai, if_neg e, if_pos rfl]
    · rw [if_neg e2, if_neg e, if_neg e2]
theorem sPA_up {n : Nat} {may : Int → Int → Bool} {A : Nat} {mt : Int → Int} {i k : Int} (h : sPA n may A mt) (hi : 0 ≤ i) (hik : i < k) (hk : k < n) (h1 : mt i < 0) (h2 : mt k < 0) (hm : may i k = true) : sPA n may A (sUp mt i k) := by
  have ai := sPA_in h hi (by omega) h1
  have ak := sPA_in h (show 0 ≤ k by omega) hk h2
  have ei : sUp mt i k i = k := by unfold sUp; rw [if_neg (by omega), if_pos rfl]
  have ek : sUp mt i k k = i := by unfold sUp; rw [if_pos rfl]
  have eo : ∀ x, x ≠ i → x ≠ k → sUp mt i k x = mt x := fun x q1 q2 => by unfold sUp; rw [if_neg q2, if_neg q1]
  intro x q0 q1
  by_cases e : x = k
  · subst e
    rw [ek]
    exact ⟨fun _ => ⟨by omega, fun _ => ⟨by omega, by omega, ai.1, ei, fun hh => by omega⟩⟩, fun a => by rw [ak.1] at a; cases a⟩
  · by_cases e2 : x = i
    · subst e2
      rw [ei]
      exact ⟨fun _ => ⟨by omega, fun _ => ⟨by omega, by omega, ak.1, ek, fun _ => hm⟩⟩, fun a => by rw [ai.1] at a; cases a⟩
    · rw [eo x e2 e]
      have g := h x q0 q1
      refine ⟨fun a => ⟨(g.1 a).1, fun b => ?_⟩, g.2⟩
      have g2 := (g.1 a).2 b
      have n1 : mt x ≠ i := fun e3 => by have := g2.2.2.2.1; rw [e3] at this; omega
      have n2 : mt x ≠ k := fun e3 => by have := g2.2.2.2.1; rw [e3] at this; omega
      rw [eo _ n1 n2]
      exact g2
theorem sPA_hv {m : zM} {A : Nat} {mt : Int → Int} {may : Int → Int → Bool} (hn : 0 ≤ m aM f_letters ∧ m aM f_letters ≤ 12) (hrel : m a_mate = sMk A mt) (hpa : sPA (m aM f_letters).toNat may A mt) (hno : ∀ i : Int, 0 ≤ i → i < (m aM f_letters).toNat → ¬ mt i < 0) : ∀ i : Int, 0 ≤ i → i < m aM f_letters → m a_mate i < i ∨ (i < m a_mate i ∧ m a_mate i < m aM f_letters ∧ may i (m a_mate i) = true) := fun i q0 q1 => by
  rw [hrel, sMk, if_pos ⟨q0, by omega⟩]
  have g := hpa i q0 (by omega)
  have h0 := hno i q0 (by omega)
  cases a : A.testBit i.toNat with
  | false => rw [if_neg (by decide)]; left; omega
  | true =>
    rw [if_pos rfl]
    have g2 := (g.1 a).2 (by omega)
    by_cases e : mt i < i
    · exact Or.inl e
    · exact Or.inr ⟨by omega, by omega, g2.2.2.2.2 (by omega)⟩
theorem sPA_hc {m : zM} {A : Nat} {mt : Int → Int} {may : Int → Int → Bool} (hn : 0 ≤ m aM f_letters ∧ m aM f_letters ≤ 12) (hrel : m a_mate = sMk A mt) (hpa : sPA (m aM f_letters).toNat may A mt) (hno : ∀ i : Int, 0 ≤ i → i < (m aM f_letters).toNat → ¬ mt i < 0) (hop : 2 * sOp mt (m aM f_letters).toNat + sFr mt (m aM f_letters).toNat ≤ 12) : zsum (fun i => zb (i < m a_mate i)) (m aM f_letters).toNat 0 ≤ 6 := by
  have e : zsum (fun i => zb (i < m a_mate i)) (m aM f_letters).toNat 0 = sOp mt (m aM f_letters).toNat := by
    unfold sOp
    refine zsum_congr (fun i q0 q1 => zb_cong ?_)
    rw [hrel, sMk, if_pos ⟨q0, by omega⟩]
    have g := hpa i q0 (by omega)
    cases a : A.testBit i.toNat with
    | false => rw [if_neg (by decide)]; have := g.2 a; omega
    | true => rw [if_pos rfl]
  have := (sFr_nn mt (m aM f_letters).toNat).1
  rw [e]
  omega
def fSub : List (Int × Option Int) := (a_mate, none) :: fCnt
def mSb (T : zT) (pts A : Nat) (m m' : zM) (rows : List (Int → Int)) : Prop := (∀ k : Int, 0 ≤ k → k < 4 → m' a_subs k = m a_subs k + lS (fun r => tSub T pts k (sMk A r)) rows) ∧ m' a_mate = m a_mate ∧ zfr fSub m m'
def mCap (m : zM) (len : Nat) : Prop := ∀ k : Int, 0 ≤ k → k < 4 → (len : Int) - 20000 ≤ m a_subs k ∧ m a_subs k ≤ 20000 - len
theorem lS_app {α : Type} (f : α → Int) : ∀ (a b : List α), lS f (a ++ b) = lS f a + lS f b
  | [], b => by rw [List.nil_append, lS, Int.zero_add]
  | x :: a, b => by rw [List.cons_append, lS, lS, lS_app f a b, Int.add_assoc]
theorem mSb_nil {T : zT} {pts A : Nat} {m : zM} : mSb T pts A m m [] := ⟨fun k _ _ => by rw [lS, Int.add_zero], rfl, zfr_rf⟩
theorem mSb_app {T : zT} {pts A : Nat} {m m1 m2 : zM} {r1 r2 : List (Int → Int)} (h1 : mSb T pts A m m1 r1) (h2 : mSb T pts A m1 m2 r2) : mSb T pts A m m2 (r1 ++ r2) :=
  ⟨fun k q0 q1 => by rw [h2.1 k q0 q1, h1.1 k q0 q1, lS_app, Int.add_assoc], h2.2.1.trans h1.2.1, zfr_tr h1.2.2 h2.2.2⟩
theorem mSb_wrap {T : zT} {pts A : Nat} {m1 m3 : zM} {rows : List (Int → Int)} {i k : Int} (h : mSb T pts A (zu (zu m1 a_mate i k) a_mate k i) m3 rows) (hi : m1 a_mate i = -1) (hk : m1 a_mate k = -1) (hik : i ≠ k) : mSb T pts A m1 (zu (zu m3 a_mate i (-1)) a_mate k (-1)) rows := by
  refine ⟨fun x q0 q1 => ?_, ?_, ?_⟩
  · rw [zu_a (by decide), zu_a (by decide), h.1 x q0 q1, zu_a (by decide), zu_a (by decide)]
  · funext x
    by_cases e : x = k
    · rw [e, zu_s, hk]
    · rw [zu_j e]
      by_cases e2 : x = i
      · rw [e2, zu_s, hi]
      · rw [zu_j e2, h.2.1, zu_j e, zu_j e2]
  · refine zfr_ua (zfr_ua (zfr_tr (m1 := zu (zu m1 a_mate i k) a_mate k i) (zfr_ua (zfr_ua zfr_rf (by decide)) (by decide)) h.2.2) (by decide)) (by decide)
theorem mSb_one {T : zT} {pts A : Nat} {m m2 : zM} {mt : Int → Int} (hrel : m a_mate = sMk A mt) (c1 : zfr fCnt m m2) (c2 : m2 a_subs 0 = m a_subs 0 + tSub T pts 0 (m a_mate)) (c3 : m2 a_subs 1 = m a_subs 1 + tSub T pts 1 (m a_mate)) (c4 : m2 a_subs 2 = m a_subs 2 + tSub T pts 2 (m a_mate)) (c5 : m2 a_subs 3 = m a_subs 3 + tSub T pts 3 (m a_mate)) : mSb T pts A m m2 [mt] := by
  refine ⟨fun k q0 q1 => ?_, zfr_cell c1 (by decide), zfr_sub c1 (by decide)⟩
  rw [lS, lS, Int.add_zero, ← hrel]
  rcases (show k = 0 ∨ k = 1 ∨ k = 2 ∨ k = 3 by omega) with rfl | rfl | rfl | rfl
  · exact c2
  · exact c3
  · exact c4
  · exact c5
theorem tSub_bd (T : zT) (pts : Nat) (k : Int) (mt : Int → Int) : -1 ≤ tSub T pts k mt ∧ tSub T pts k mt ≤ 1 := by
  unfold tSub
  split
  · decide
  · split
    · have : tSign T mt = 1 ∨ tSign T mt = -1 := zpar_or _
      omega
    · split
      · rename_i h; clear h
        have := zb01 (tLost T.1 (sCL T.2.2.2.toNat (cCode T.1 T.2.1 T.2.2.1) mt T.2.2.2.toNat 0).length (lf (sCL T.2.2.2.toNat (cCode T.1 T.2.1 T.2.2.1) mt T.2.2.2.toNat 0)) pts = 0)
        omega
      · have := zb01 (tParts (sCL T.2.2.2.toNat (cCode T.1 T.2.1 T.2.2.1) mt T.2.2.2.toNat 0).length (lf (sCL T.2.2.2.toNat (cCode T.1 T.2.1 T.2.2.1) mt T.2.2.2.toNat 0)) (-1) pts = 1)
        omega
theorem lS_bd1 {α : Type} {f : α → Int} : ∀ {l : List α}, (∀ x, -1 ≤ f x ∧ f x ≤ 1) → -(l.length : Int) ≤ lS f l ∧ lS f l ≤ l.length
  | [], _ => by simp [lS]
  | x :: l, h => by
    have := h x
    have := lS_bd1 (l := l) h
    rw [lS, List.length_cons]
    omega
theorem mCap_of {m m1 : zM} {T : zT} {pts A : Nat} {rows lay rest : List (Int → Int)} (h : ∀ k : Int, 0 ≤ k → k < 4 → m1 a_subs k = m a_subs k + lS (fun r => tSub T pts k (sMk A r)) rows) (hc : mCap m (rows.length + (lay ++ rest).length)) : mCap m1 lay.length := fun k q0 q1 => by
  have h1 := hc k q0 q1
  have h2 := lS_bd1 (f := fun r => tSub T pts k (sMk A r)) (l := rows) (fun x => tSub_bd T pts k _)
  rw [h k q0 q1]
  rw [List.length_append] at h1
  omega
theorem fSub_k {m m' : zM} (h : zfr fSub m m') : m' a_c = m a_c ∧ m' a_what = m a_what ∧ m' a_pointOf = m a_pointOf ∧ m' aM f_letters = m aM f_letters ∧ m' aM f_among = m aM f_among ∧ m' aM f_subPoints = m aM f_subPoints ∧ (ptM m → ptM m') :=
  ⟨zfr_cell h (by decide), zfr_cell h (by decide), zfr_cell h (by decide), zfr_at h (by decide), zfr_at h (by decide), zfr_at h (by decide), fun hp => ptM_F hp (zfr_sub h (by decide))⟩
theorem l_laysSub (d : Nat) {E : zE} {m : zM} {P : Option zV → zM → Prop} (hE : shM E) (hw : wfC (m a_c)) (hl : wfL (m a_c) (m a_what) (m a_pointOf) (m aM f_letters)) (pts A : Nat) (hp : pts < 256) (hpt : m aM f_subPoints = (pts : Int)) (hA : A < 4096) (ha : m aM f_among = (A : Int)) (mt : Int → Int) (hrel : m a_mate = sMk A mt) (hpa : sPA (m aM f_letters).toNat (cMay (m a_c) (m a_what) (m a_pointOf)) A mt) (hop : 2 * sOp mt (m aM f_letters).toNat + sFr mt (m aM f_letters).toNat ≤ 12) (u : Nat) (hu : sFr mt (m aM f_letters).toNat ≤ 2 * u + 1) (i : Int) (hi0 : 0 ≤ i) (hi : i < m aM f_letters) (hif : mt i < 0) (rec : 0 < u → ∀ (m2 : zM) (mt2 : Int → Int), ptM m2 → zfr fSub m m2 → m2 a_mate = sMk A mt2 → sPA (m aM f_letters).toNat (cMay (m a_c) (m a_what) (m a_pointOf)) A mt2 → sFr mt2 (m aM f_letters).toNat + 2 = sFr mt (m aM f_letters).toNat → 2 * sOp mt2 (m aM f_letters).toNat + sFr mt2 (m aM f_letters).toNat ≤ 12 → mCap m2 (sLay (m aM f_letters).toNat (cMay (m a_c) (m a_what) (m a_pointOf)) (u - 1) mt2).length → zR zX12_laysSub (u + (d + 4)) [zP aM] m2 E E (fun r m3 => r = none ∧ mSb (mT m) pts A m2 m3 (sLay (m aM f_letters).toNat (cMay (m a_c) (m a_what) (m a_pointOf)) (u - 1) mt2))) : ∀ (j : Nat) (k : Int) (m1 : zM) (rows : List (Int → Int)), mSb (mT m) pts A m m1 rows → ptM m1 → i < k → k + j = m aM f_letters → mCap m (rows.length + (sCat (fun x => if mt x < 0 ∧ (cMay (m a_c) (m a_what) (m a_pointOf)) i x = true then sLay (m aM f_letters).toNat (cMay (m a_c) (m a_what) (m a_pointOf)) (u - 1) (sUp mt i x) else []) j k).length) → (∀ m2, mSb (mT m) pts A m m2 (rows ++ sCat (fun x => if mt x < 0 ∧ (cMay (m a_c) (m a_what) (m a_pointOf)) i x = true then sLay (m aM f_letters).toNat (cMay (m a_c) (m a_what) (m a_pointOf)) (u - 1) (sUp mt i x) else []) j k) → P none m2) → zA zX12_laysSub (u + (d + 5)) E E P 18 [zP aM, zI i, zI k] [] m1 E := by
  intro j
  induction j with
  | zero =>
    intro k m1 rows hL hm1 h1 hk hcap hP
    obtain ⟨hc1, hc2, hc3, hc4, hc5, hc6⟩ := fSub_k hL.2.2
    have hb1 := hl.1
    refine z_iload_n dX12_laysSub_18 rfl ?_
    refine z_aload_n dX12_laysSub_19 rfl ?_
    refine z_gIv f_letters rfl flX12_124 dX12_laysSub_20 (sh_M hE) rfl hc4 ?_
    refine z_icmp_ge (tgt := 96) dX12_laysSub_23 rfl (fun h23 => ?_) (fun h => absurd (by omega) h)
    refine z_vret dX12_laysSub_96 rfl rfl ?_
    exact hP m1 (by simpa [sCat] using hL)
  | succ j ih =>
    intro k m1 rows hL hm1 h1 hk hcap hP
    obtain ⟨hc1, hc2, hc3, hc4, hc5, hc6⟩ := fSub_k hL.2.2
    have hb1 := hl.1
    have hek : m1 a_mate k = sMk A mt k := by rw [hL.2.1, hrel]
    have hmk := sMk_lt (A := A) (mt := mt) hpa (x := k) (by omega) (by omega) (by omega)
    have hhas := r_has (u + (d + 4)) hE hm1 A k.toNat (by omega) (by omega)
    rw [Int.toNat_of_nonneg (show 0 ≤ k by omega)] at hhas
    refine z_iload_n dX12_laysSub_18 rfl ?_
    refine z_aload_n dX12_laysSub_19 rfl ?_
    refine z_gIv f_letters rfl flX12_124 dX12_laysSub_20 (sh_M hE) rfl hc4 ?_
    refine z_icmp_ge (tgt := 96) dX12_laysSub_23 rfl (fun h => absurd h (by omega)) (fun h23 => ?_)
    refine z_aload_n dX12_laysSub_26 rfl ?_
    refine z_gIv f_among rfl flX12_155 dX12_laysSub_27 (sh_M hE) rfl (hc5.trans ha) ?_
    refine z_iload_n dX12_laysSub_30 rfl ?_
    refine z_callS mlX12_158 dX12_laysSub_31 (av := [_, _]) rfl rfl (Nat.le_of_ble_eq_true rfl) hhas (Nat.le_refl _) (Nat.le_refl _) (Nat.le_refl _) (Nat.le_refl _) ?_
    rintro _ _ ⟨rfl, rfl⟩
    refine z_ifz_eq (tgt := 90) dX12_laysSub_34 rfl (fun h34 => ?_) (fun h34 => ?_)
    · refine z_inc dX12_laysSub_90 rfl (by omega) ?_
      refine z_goto (tgt := 18) dX12_laysSub_93 rfl ?_
      try dsimp only [zs0, zsI, zsP, zsN, zsJ, zsS, zst2, Nat.reduceAdd]
      rw [sCat_s, if_neg (fun q => by have := hmk.mpr q.1; first | exact h34 this.1 | (have := this.2; omega)), List.nil_append] at hcap hP
      exact ih (k + 1) m1 rows hL hm1 (by omega) (by omega) hcap hP
    · refine z_aload_n dX12_laysSub_37 rfl ?_
      refine z_gP 16 rfl (r := a_mate) flX12_41 dX12_laysSub_38 (sh_M hE) rfl (pt_mate hm1) (by decide) ?_
      refine z_iload_n dX12_laysSub_41 rfl ?_
      refine z_ialv dX12_laysSub_42 (sh_mate hE) (by omega) (by omega) hek ?_
      refine z_if_ge (tgt := 90) dX12_laysSub_43 rfl (fun h43 => ?_) (fun h43 => ?_)
      · refine z_inc dX12_laysSub_90 rfl (by omega) ?_
        refine z_goto (tgt := 18) dX12_laysSub_93 rfl ?_
        try dsimp only [zs0, zsI, zsP, zsN, zsJ, zsS, zst2, Nat.reduceAdd]
        rw [sCat_s, if_neg (fun q => by have := (hmk.mpr q.1).2; omega), List.nil_append] at hcap hP
        exact ih (k + 1) m1 rows hL hm1 (by omega) (by omega) hcap hP
      · refine z_aload_n dX12_laysSub_46 rfl ?_
        refine z_iload_n dX12_laysSub_47 rfl ?_
        refine z_iload_n dX12_laysSub_48 rfl ?_
        refine z_callV mlX12_184 dX12_laysSub_49 (sh_M hE) (av := [_, _]) rfl rfl (Nat.le_of_ble_eq_true rfl) (r_mayBe _ hE hm1 i k hi0 (by omega) (by omega) (by omega) (by rw [hc1]; exact hw) (by rw [hc1, hc2, hc3, hc4]; exact hl)) (Nat.le_refl _) (Nat.le_refl _) (Nat.le_refl _) (Nat.le_refl _) ?_
        rw [hc1, hc2, hc3]
        rintro _ _ ⟨rfl, rfl⟩
        refine z_ifz_ne (tgt := 58) dX12_laysSub_52 rfl (fun h52 => ?_) (fun h52 => ?_)
        · refine z_aload_n dX12_laysSub_58 rfl ?_
          refine z_gP 16 rfl (r := a_mate) flX12_41 dX12_laysSub_59 (sh_M hE) rfl (pt_mate hm1) (by decide) ?_
          refine z_iload_n dX12_laysSub_62 rfl ?_
          refine z_iload_n dX12_laysSub_63 rfl ?_
          refine z_iast dX12_laysSub_64 (sh_mate hE) (by omega) (by omega) ?_
          refine z_aload_n dX12_laysSub_65 rfl ?_
          refine z_gP 16 rfl (r := a_mate) flX12_41 dX12_laysSub_66 (sh_M hE) rfl (pt_mate (ptM_a hm1 (by decide))) (by decide) ?_
          refine z_iload_n dX12_laysSub_69 rfl ?_
          refine z_iload_n dX12_laysSub_70 rfl ?_
          refine z_iast dX12_laysSub_71 (sh_mate hE) (by omega) (by omega) ?_
          have hkf : mt k < 0 := hmk.mp ⟨h34, by omega⟩
          have hx1 : m1 a_mate = sMk A mt := hL.2.1.trans hrel
          have ai := sPA_in hpa hi0 (by omega) hif
          have ak := sPA_in hpa (show 0 ≤ k by omega) (by omega) hkf
          have hi1 : m1 a_mate i = -1 := by rw [hx1, sMk, if_pos ⟨hi0, by omega⟩, if_pos ai.1]; omega
          have hk1 : m1 a_mate k = -1 := by rw [hx1, sMk, if_pos ⟨by omega, by omega⟩, if_pos ak.1]; omega
          have h5 := sFr_up (mt := mt) (n := (m aM f_letters).toNat) (i := i) (j := k) hi0 (by omega) (by omega) (by omega) (by omega) hif hkf
          have h6 := sFr_nn (sUp mt i k) (m aM f_letters).toNat
          have h7 := sOp_up (mt := mt) (n := (m aM f_letters).toNat) (i := i) (j := k) hi0 (by omega) (by omega) hif hkf
          have hu0 : 0 < u := by omega
          rw [sCat_s, if_pos ⟨hkf, h52⟩] at hcap hP
          refine z_aload_n dX12_laysSub_72 rfl ?_
          refine z_callV mlX12_386 dX12_laysSub_73 (sh_M hE) (av := []) rfl rfl (Nat.le_of_ble_eq_true rfl) (rec hu0 _ (sUp mt i k) (ptM_a (ptM_a hm1 (by decide)) (by decide)) (zfr_ua (zfr_ua hL.2.2 (by decide)) (by decide)) ?_ ?_ ?_ ?_ ?_) (Nat.le_refl _) (Nat.le_refl _) (Nat.le_refl _) (Nat.le_refl _) ?_
          · rw [sUp_fn, hx1]
            exact sMk_up hi0 (by omega) (by omega) (by omega) ai.1 ak.1
          · exact sPA_up hpa hi0 (by omega) (by omega) hif hkf h52
          · omega
          · omega
          · refine mCap_of (m := m) (T := mT m) (pts := pts) (A := A) (rows := rows) (fun x q1 q2 => ?_) hcap
            rw [zu_a (by decide), zu_a (by decide)]
            exact hL.1 x q1 q2
          rintro _ m3 ⟨rfl, hL3⟩
          have hm3 : ptM m3 := (fSub_k hL3.2.2).2.2.2.2.2.2 (ptM_a (ptM_a hm1 (by decide)) (by decide))
          have hL4 := mSb_app hL (mSb_wrap hL3 hi1 hk1 (by omega))
          refine z_aload_n dX12_laysSub_76 rfl ?_
          refine z_gP 16 rfl (r := a_mate) flX12_41 dX12_laysSub_77 (sh_M hE) rfl (pt_mate hm3) (by decide) ?_
          refine z_iload_n dX12_laysSub_80 rfl ?_
          refine z_iconst dX12_laysSub_81 (by decide) ?_
          refine z_iast dX12_laysSub_82 (sh_mate hE) (by omega) (by omega) ?_
          refine z_aload_n dX12_laysSub_83 rfl ?_
          refine z_gP 16 rfl (r := a_mate) flX12_41 dX12_laysSub_84 (sh_M hE) rfl (pt_mate (ptM_a hm3 (by decide))) (by decide) ?_
          refine z_iload_n dX12_laysSub_87 rfl ?_
          refine z_iconst dX12_laysSub_88 (by decide) ?_
          refine z_iast dX12_laysSub_89 (sh_mate hE) (by omega) (by omega) ?_
          refine z_inc dX12_laysSub_90 rfl (by omega) ?_
          refine z_goto (tgt := 18) dX12_laysSub_93 rfl ?_
          try dsimp only [zs0, zsI, zsP, zsN, zsJ, zsS, zst2, Nat.reduceAdd]
          exact ih (k + 1) _ _ hL4 (ptM_a (ptM_a hm3 (by decide)) (by decide)) (by omega) (by omega) (by rw [List.length_append, ← Nat.add_assoc] at hcap; rw [List.length_append]; exact hcap) (fun m2 p2 => hP m2 (by rw [List.append_assoc] at p2; exact p2))
        · refine z_goto (tgt := 90) dX12_laysSub_55 rfl ?_
          refine z_inc dX12_laysSub_90 rfl (by omega) ?_
          refine z_goto (tgt := 18) dX12_laysSub_93 rfl ?_
          try dsimp only [zs0, zsI, zsP, zsN, zsJ, zsS, zst2, Nat.reduceAdd]
          rw [sCat_s, if_neg (fun q => h52 q.2), List.nil_append] at hcap hP
          exact ih (k + 1) m1 rows hL hm1 (by omega) (by omega) hcap hP

theorem r_laysSub_step (d : Nat) {E : zE} {m : zM} (hE : shM E) (hm : ptM m) (hw : wfC (m a_c)) (hl : wfL (m a_c) (m a_what) (m a_pointOf) (m aM f_letters)) (pts A : Nat) (hp : pts < 256) (hpt : m aM f_subPoints = (pts : Int)) (hA : A < 4096) (ha : m aM f_among = (A : Int)) (mt : Int → Int) (hrel : m a_mate = sMk A mt) (hpa : sPA (m aM f_letters).toNat (cMay (m a_c) (m a_what) (m a_pointOf)) A mt) (hop : 2 * sOp mt (m aM f_letters).toNat + sFr mt (m aM f_letters).toNat ≤ 12) (u : Nat) (hu : sFr mt (m aM f_letters).toNat ≤ 2 * u + 1) (hcap : mCap m (sLay (m aM f_letters).toNat (cMay (m a_c) (m a_what) (m a_pointOf)) u mt).length) (rec : 0 < u → ∀ (m2 : zM) (mt2 : Int → Int), ptM m2 → zfr fSub m m2 → m2 a_mate = sMk A mt2 → sPA (m aM f_letters).toNat (cMay (m a_c) (m a_what) (m a_pointOf)) A mt2 → sFr mt2 (m aM f_letters).toNat + 2 = sFr mt (m aM f_letters).toNat → 2 * sOp mt2 (m aM f_letters).toNat + sFr mt2 (m aM f_letters).toNat ≤ 12 → mCap m2 (sLay (m aM f_letters).toNat (cMay (m a_c) (m a_what) (m a_pointOf)) (u - 1) mt2).length → zR zX12_laysSub (u + (d + 4)) [zP aM] m2 E E (fun r m3 => r = none ∧ mSb (mT m) pts A m2 m3 (sLay (m aM f_letters).toNat (cMay (m a_c) (m a_what) (m a_pointOf)) (u - 1) mt2))) : zR zX12_laysSub (u + (d + 5)) [zP aM] m E E (fun r m' => r = none ∧ mSb (mT m) pts A m m' (sLay (m aM f_letters).toNat (cMay (m a_c) (m a_what) (m a_pointOf)) u mt)) := by
  have hb1 := hl.1
  have hff := sMk_fst (A := A) hb1 hrel hpa
  refine zR_go [zP aM, zN, zN] (by decide +kernel) (Nat.le_of_ble_eq_true rfl) rfl rfl ?_
  refine z_aload_n dX12_laysSub_0 rfl ?_
  refine z_callV mlX12_168 dX12_laysSub_1 (sh_M hE) (av := _) rfl rfl (Nat.le_of_ble_eq_true rfl) (r_firstFree _ hE hm A ha hA hl.1) (Nat.le_refl _) (Nat.le_refl _) (Nat.le_refl _) (Nat.le_refl _) ?_
  rw [hff]
  rintro _ _ ⟨rfl, rfl⟩
  refine z_ist 1 dX12_laysSub_4 rfl (Nat.le_of_ble_eq_true rfl) ?_
  refine z_iload_n dX12_laysSub_5 rfl ?_
  try dsimp only [zs0, zsI, zsP, zsN, zsJ, zsS, zst2, Nat.reduceAdd]
  refine z_if_ge (tgt := 14) dX12_laysSub_6 rfl (fun h6 => ?_) (fun h6 => ?_)
  · refine z_iload_n dX12_laysSub_14 rfl ?_
    refine z_iconst dX12_laysSub_15 (by decide) ?_
    refine z_add dX12_laysSub_16 (by have := sFst_lt (mt := mt) (n := (m aM f_letters).toNat) (by omega); omega) ?_
    refine z_ist 2 dX12_laysSub_17 rfl (Nat.le_of_ble_eq_true rfl) ?_
    try dsimp only [zs0, zsI, zsP, zsN, zsJ, zsS, zst2, Nat.reduceAdd]
    have hf := sFst_lt (mt := mt) (n := (m aM f_letters).toNat) (by omega)
    refine l_laysSub d hE hw hl pts A hp hpt hA ha mt hrel hpa hop u hu (sFst mt (m aM f_letters).toNat) hf.1 (by omega) hf.2.2.1 rec ((m aM f_letters).toNat - 1 - (sFst mt (m aM f_letters).toNat).toNat) _ m [] mSb_nil hm (by omega) (by omega) ?_ (fun m2 h2 => ⟨rfl, ?_⟩)
    · rw [← sLay_eq (by omega) hu]
      simpa using hcap
    · rw [← sLay_eq (by omega) hu] at h2
      simpa using h2
  · have hlay : sLay (m aM f_letters).toNat (cMay (m a_c) (m a_what) (m a_pointOf)) u mt = [mt] := sLay_one (by omega)
    rw [hlay] at hcap
    have hno := sFst_no (mt := mt) (n := (m aM f_letters).toNat) (by omega)
    have hv := sPA_hv hb1 hrel hpa hno
    have hcc := sPA_hc hb1 hrel hpa hno hop
    refine z_aload_n dX12_laysSub_9 rfl ?_
    refine z_callV mlX12_383 dX12_laysSub_10 (sh_M hE) (av := _) rfl rfl (Nat.le_of_ble_eq_true rfl) (r_countsSub _ hE hm hw hl hv hcc pts hp hpt (fun k q1 q2 => by have := hcap k q1 q2; omega)) (Nat.le_refl _) (Nat.le_refl _) (Nat.le_refl _) (Nat.le_refl _) ?_
    rintro _ m2 ⟨rfl, c1, c2, c3, c4, c5⟩
    refine z_vret dX12_laysSub_13 rfl rfl ?_
    exact ⟨rfl, by rw [hlay]; exact mSb_one hrel c1 c2 c3 c4 c5⟩

theorem r_laysSub (d : Nat) {E : zE} (hE : shM E) : ∀ (u : Nat) (m : zM) (hm : ptM m) (hw : wfC (m a_c)) (hl : wfL (m a_c) (m a_what) (m a_pointOf) (m aM f_letters)) (pts A : Nat) (hp : pts < 256) (hpt : m aM f_subPoints = (pts : Int)) (hA : A < 4096) (ha : m aM f_among = (A : Int)) (mt : Int → Int) (hrel : m a_mate = sMk A mt) (hpa : sPA (m aM f_letters).toNat (cMay (m a_c) (m a_what) (m a_pointOf)) A mt) (hop : 2 * sOp mt (m aM f_letters).toNat + sFr mt (m aM f_letters).toNat ≤ 12) (hu : sFr mt (m aM f_letters).toNat ≤ 2 * u + 1) (hcap : mCap m (sLay (m aM f_letters).toNat (cMay (m a_c) (m a_what) (m a_pointOf)) u mt).length), zR zX12_laysSub (u + (d + 5)) [zP aM] m E E (fun r m' => r = none ∧ mSb (mT m) pts A m m' (sLay (m aM f_letters).toNat (cMay (m a_c) (m a_what) (m a_pointOf)) u mt)) := by
  intro u
  induction u with
  | zero =>
    intro m hm hw hl pts A hp hpt hA ha mt hrel hpa hop hu hcap
    exact r_laysSub_step d hE hm hw hl pts A hp hpt hA ha mt hrel hpa hop 0 hu hcap (fun h => absurd h (by omega))
  | succ u ih =>
    intro m hm hw hl pts A hp hpt hA ha mt hrel hpa hop hu hcap
    refine r_laysSub_step d hE hm hw hl pts A hp hpt hA ha mt hrel hpa hop (u + 1) hu hcap (fun _ m2 mt2 hm2 hf hrel2 hpa2 hfr hop2 hcap2 => ?_)
    obtain ⟨e1, e2, e3, e4, e5, e6, -⟩ := fSub_k hf
    have eT : mT m2 = mT m := mT_of e1 e2 e3 e4
    have h := ih m2 hm2 (by rw [e1]; exact hw) (by rw [e1, e2, e3, e4]; exact hl) pts A hp (by rw [e6]; exact hpt) hA (by rw [e5]; exact ha) mt2 hrel2 (by rw [e1, e2, e3, e4]; exact hpa2) (by rw [e4]; exact hop2) (by rw [e4]; omega) (by rw [e1, e2, e3, e4]; exact hcap2)
    rw [e1, e2, e3, e4, eT] at h
    rw [show u + 1 + (d + 4) = u + (d + 5) by omega]
    exact h
