/-! pairings and diagrams that are told, found again -/
theorem pTwo_is {K : zK} {n : Int} {may : Int → Int → Bool} {mt : Int → Int} {w p : Int} (h : (pTwo K n may mt w p).1 = 0) : (kSo K p = 2 ∧ kN K p < n ∧ mt (kN K p) < 0) ∧ (kSo K (kR K (kR K p)) = 2 ∧ kN K (kR K (kR K p)) < n ∧ mt (kN K (kR K (kR K p))) < 0) ∧ may (kN K p) (kN K (kR K (kR K p))) = true ∧ (pTwo K n may mt w p).2.2.1 = sUp mt (kN K p) (kN K (kR K (kR K p))) := by
  unfold pTwo at h ⊢
  by_cases a1 : ¬ kSo K p = 2
  · rw [if_pos a1] at h; exact absurd h kMis_ne
  rw [if_neg a1] at h ⊢
  by_cases a2 : ¬ kN K p < n
  · rw [if_pos a2] at h; exact absurd (show (3 : Int) = 0 from h) (by decide)
  rw [if_neg a2] at h ⊢
  by_cases a3 : 0 ≤ mt (kN K p)
  · rw [if_pos a3] at h; exact absurd (show (5 : Int) = 0 from h) (by decide)
  rw [if_neg a3] at h ⊢
  by_cases a4 : n / 2 ≤ w
  · rw [if_pos a4] at h; exact absurd (show (6 : Int) = 0 from h) (by decide)
  rw [if_neg a4] at h ⊢
  by_cases a5 : ¬ kSn K (kR K p) 45
  · rw [if_pos a5] at h; exact absurd h kMis_ne
  rw [if_neg a5] at h ⊢
  by_cases a6 : ¬ kSo K (kR K (kR K p)) = 2
  · rw [if_pos a6] at h; exact absurd h kMis_ne
  rw [if_neg a6] at h ⊢
  by_cases a7 : ¬ kN K (kR K (kR K p)) < n
  · rw [if_pos a7] at h; exact absurd (show (3 : Int) = 0 from h) (by decide)
  rw [if_neg a7] at h ⊢
  by_cases a8 : ¬ may (kN K p) (kN K (kR K (kR K p))) = true
  · rw [if_pos a8] at h; exact absurd (show (4 : Int) = 0 from h) (by decide)
  rw [if_neg a8] at h ⊢
  by_cases a9 : 0 ≤ mt (kN K (kR K (kR K p)))
  · rw [if_pos a9] at h; exact absurd (show (5 : Int) = 0 from h) (by decide)
  rw [if_neg a9] at h ⊢
  by_cases a10 : ¬ kSn K (kR K (kR K (kR K p))) 59
  · rw [if_pos a10] at h; exact absurd h kMis_ne
  rw [if_neg a10]
  exact ⟨⟨Classical.not_not.mp a1, by omega, by omega⟩, ⟨Classical.not_not.mp a6, by omega, by omega⟩, Classical.not_not.mp a8, rfl⟩
theorem sUp_sy {mt : Int → Int} {i j : Int} (h : i ≠ j) : sUp mt i j = sUp mt j i := by
  funext x
  unfold sUp
  by_cases a : x = j
  · rw [if_pos a, if_neg (by omega), if_pos a]
  · rw [if_neg a, if_neg a]
theorem pTwo_part {K : zK} {n : Int} {c w0 q0 : Int → Int} {mt : Int → Int} {w p : Int} (hs : sPart n.toNat (cMay c w0 q0) mt) (h : (pTwo K n (cMay c w0 q0) mt w p).1 = 0) : sPart n.toNat (cMay c w0 q0) (pTwo K n (cMay c w0 q0) mt w p).2.2.1 := by
  obtain ⟨⟨a1, a2, a3⟩, ⟨b1, b2, b3⟩, hm, e⟩ := pTwo_is h
  have r1 := (kN_rg a1).1
  have r2 := (kN_rg b1).1
  rw [e]
  have hne : kN K p ≠ kN K (kR K (kR K p)) := fun z => by
    rw [z] at hm
    unfold cMay at hm
    exact (of_decide_eq_true hm).1 (Or.inl rfl)
  rcases Int.lt_or_gt_of_ne hne with z | z
  · exact sPart_up hs r1 z (by omega) a3 b3 hm
  · rw [sUp_sy hne]
    exact sPart_up hs r2 z (by omega) b3 a3 (may_sy hm)
theorem pPairs_part {K : zK} {n : Int} {c w0 q0 : Int → Int} : ∀ (j : Nat) (mt : Int → Int) (w p : Int), sPart n.toNat (cMay c w0 q0) mt → (pPairs K n (cMay c w0 q0) j mt w p).1 = 0 → sPart n.toNat (cMay c w0 q0) (pPairs K n (cMay c w0 q0) j mt w p).2.2.1
  | 0, mt, w, p, hs, _ => hs
  | j + 1, mt, w, p, hs, h => by
    rw [pPairs_s] at h ⊢
    by_cases a : kSo K p = 0
    · rw [if_pos a]; exact hs
    · rw [if_neg a] at h ⊢
      by_cases b : (pTwo K n (cMay c w0 q0) mt w p).1 ≠ 0
      · rw [if_pos b] at h; exact absurd h b
      · rw [if_neg b] at h ⊢
        exact pPairs_part j _ _ _ (pTwo_part hs (Classical.not_not.mp b)) h
theorem full_of {n : Nat} {may : Int → Int → Bool} {mt : Int → Int} (h : sPart n may mt) (h0 : sFr mt n = 0) : sFull n may mt := by
  have hp : ∀ i : Int, 0 ≤ i → i < n → 0 ≤ mt i := fun i i0 i1 => by
    have hz := zsum_pos (f := fun i => zb (mt i < 0)) (j := n) (k := 0) (x := i) (fun x _ _ => by have := zb01 (mt x < 0); omega) i0 (by omega)
    unfold sFr at h0
    rw [h0] at hz
    rcases Int.lt_or_le (mt i) 0 with z | z
    · have : zb (mt i < 0) = 1 := zb_t z
      try dsimp only at hz
      omega
    · exact z
  have hf : ∀ i : Int, 0 ≤ i → i < n → 0 ≤ mt i ∧ mt i < n ∧ mt i ≠ i ∧ mt (mt i) = i ∧ (i < mt i → may i (mt i) = true) := fun i i0 i1 => ⟨hp i i0 i1, h i i0 i1 (hp i i0 i1)⟩
  exact ⟨hf, full_op (fun i i0 i1 => ⟨(hf i i0 i1).1, (hf i i0 i1).2.1, (hf i i0 i1).2.2.1, (hf i i0 i1).2.2.2.1⟩)⟩
theorem zevr_iff {p : Int → Bool} : ∀ {j : Nat} {k : Int}, zevr p j k = true ↔ ∀ x : Int, k ≤ x → x < k + j → p x = true
  | 0, k => ⟨fun _ x h1 h2 => by omega, fun _ => rfl⟩
  | j + 1, k => by
    unfold zevr
    rw [Bool.and_eq_true, zevr_iff]
    constructor
    · rintro ⟨h1, h2⟩ x x0 x1
      by_cases e : x = k
      · rw [e]; exact h1
      · exact h2 x (by omega) (by omega)
    · intro h
      exact ⟨h k (by omega) (by omega), fun x x0 x1 => h x (by omega) (by omega)⟩
/-- a pairing's number -/
abbrev rwN (T : zT) (k : Nat) : Nat := rowN (nT T) (fA (nT T)) (tMt T (k : Int))
theorem rw_lt {T : zT} {X : Int → Int} (h : tA T X) : ∀ t u : Nat, t < u → u < (tPairs T).length → rwN T t < rwN T u := fun t u htu hu => by
  have hn := tA_n h
  have hr := (tab_ok (may := mayT T) hn (fA_lt (nT T))).2
  have ag := tab_ag (may := mayT T) hn
  obtain ⟨r, r1, r2⟩ := agL_get ag (tMt_k (T := T) (k := t) (by omega))
  obtain ⟨s, s1, s2⟩ := agL_get ag (tMt_k (T := T) (k := u) hu)
  have e1 : rwN T t = rowN (nT T) (fA (nT T)) r := by unfold rwN rowN; rw [sMk_ag r2]
  have e2 : rwN T u = rowN (nT T) (fA (nT T)) s := by unfold rwN rowN; rw [sMk_ag s2]
  rw [e1, e2]
  obtain ⟨i1, i2⟩ := List.getElem?_eq_some_iff.mp r1
  obtain ⟨j1, j2⟩ := List.getElem?_eq_some_iff.mp s1
  have := (List.pairwise_iff_getElem.mp hr) t u i1 j1 htu
  rw [i2, j2] at this
  exact this
theorem dg_ag {n : Nat} {r s : Int → Int} (h : agF n r s) (x : Nat) : dg r ((n : Nat) : Int) x = dg s ((n : Nat) : Int) x := by
  unfold dg
  by_cases e : (x : Int) < (n : Int)
  · rw [h x (by omega) e]
  · rw [if_neg (fun z => e z.1), if_neg (fun z => e z.1)]
theorem rwN_is {T : zT} {X : Int → Int} (h : tA T X) {k : Nat} {mt : Int → Int} (e : agF (nT T) (tMt T (k : Int)) mt) : rwN T k = pkN (dg mt ((nT T : Nat) : Int)) 12 := by
  unfold rwN rowN
  exact pkN_congr (fun i _ => by rw [dg_ag (sMk_fA (tA_n h) _), dg_ag e])
theorem told_at {T : zT} {X : Int → Int} (h : tA T X) {mt : Int → Int} (hf : sFull (nT T) (mayT T) mt) : ∃ k : Nat, k < (tPairs T).length ∧ rwN T k = pkN (dg mt ((nT T : Nat) : Int)) 12 ∧ tWh T mt = (k : Int) := by
  have hn := tA_n h
  obtain ⟨s, s1, s2⟩ := sLay_all hf 6 mt0 (fun x x0 x1 x2 => by unfold mt0 at x2; rw [if_pos (by omega)] at x2; omega) (fun x x0 x1 x2 => by unfold mt0 at x2; rw [if_pos (by omega)] at x2; omega) (by rw [sFr_mt0 hn]; omega)
  obtain ⟨k, hk⟩ := List.mem_iff_getElem?.mp (show s ∈ tPairs T from s1)
  have kl := (List.getElem?_eq_some_iff.mp hk).1
  have ek := mt_of hk
  have hag : agF (nT T) (tMt T (k : Int)) mt := by rw [ek]; exact s2
  refine ⟨k, kl, rwN_is h hag, ?_⟩
  have hni := nT_i h
  have hl0 := (tA_l h).1
  unfold tWh
  refine zfst_at (fun i hi => ?_) ?_ kl
  · refine Bool.eq_false_iff.mpr (fun z => ?_)
    have hz := zevr_iff.mp z
    have ha : agF (nT T) (tMt T (i : Int)) mt := fun x x0 x1 => of_decide_eq_true (hz x x0 (by omega))
    have := rw_lt h i k hi kl
    rw [rwN_is h ha, rwN_is h hag] at this
    omega
  · exact zevr_iff.mpr (fun x x0 x1 => decide_eq_true (hag x x0 (by omega)))
/-- a told diagram's number -/
theorem tLc_is {T : zT} (hw : wfC T.1) {td : Int → Int} {h : Nat} {g : Int → Int} (g2 : cRow T.1 g h) (g3 : pm g td h) : tLc T td h = sNM T.1 h (sPk g h) := by
  unfold tLc sNM
  have e : sV T.1 (uF (sPk g h) h) h = sV T.1 td h := by
    rw [sV_co (fun i q1 q2 => uF_eq (cRow_rg hw g2) q1 q2)]
    funext π
    exact sV_pm g3
  rw [e]
theorem line_at {m : zM} {b : Int} {T : zT} {D : List Int} {F : Int → Int} (hw : wfC T.1) (hl : wfL T.1 T.2.1 T.2.2.1 T.2.2.2) (hn : T.2.2.2.toNat ≤ 12) (hD : dG m b T D) (hB : bS T (tPairs T) D F) {td : Int → Int} (ho : ∀ i : Int, 0 ≤ i → i < (tH T : Int) → cCodeOk T.1 (td i) = true) : (if F (sKey td (tH T)) < 0 then -1 else m (b + 6) (F (sKey td (tH T)))) = tIx T (tLc T td (tH T)) ∧ F (sKey td (tH T)) < (D.length : Int) := by
  obtain ⟨g, g1, g2, g3⟩ := sKey_row (c := T.1) (f := td) (h := tH T) ho
  rw [tLc_is hw g2 g3, g1]
  have hfull : ∀ r ∈ tPairs T, sFull T.2.2.2.toNat (cMay T.1 T.2.1 T.2.2.1) r := fun r hr => tP_full hn hr
  by_cases hz : F (sPk g (tH T)) = -1
  · rw [hz, if_pos (by decide)]
    refine ⟨?_, by omega⟩
    unfold tIx
    rw [zfst_none (fun i hi => ?_)]
    refine decide_eq_false (fun e => ?_)
    obtain ⟨x, x1, x2, x3, x4⟩ := (dG_ord hD).2 i (by rw [(dG_ord hD).1]; exact hi)
    obtain ⟨r, r1, r2⟩ := (hB.2.1 _).mp (List.mem_of_getElem? x3)
    obtain ⟨f, f1, f2, f3⟩ := row_g hw hl (hfull r r1)
    have en : tName T r = sNM T.1 (tH T) (sPk f (tH T)) := by rw [← f1]; rfl
    obtain ⟨π, p1, p2⟩ := orb_fr hw f2 g2 (by rw [← en, r2, e])
    exact hB.2.2.2 _ ⟨r, r1, π, p1, by rw [p2, sV_pm f3]⟩ hz
  · obtain ⟨i, i1, r, r1, ⟨π, p1, p2⟩, r3⟩ := hB.2.2.1 _ hz
    obtain ⟨f, f1, f2, f3⟩ := row_g hw hl (hfull r r1)
    have en : tName T r = sNM T.1 (tH T) (sPk f (tH T)) := by rw [← f1]; rfl
    have e := orb_nm hw f2 g2 p1 (by rw [p2, sV_pm f3])
    obtain ⟨x, x1, x2, x3, x4, x5⟩ := dG_rk hD r3
    have il := (List.getElem?_eq_some_iff.mp r3).1
    rw [e, ← en, i1, if_neg (by omega), x1, x5]
    exact ⟨rfl, by omega⟩
