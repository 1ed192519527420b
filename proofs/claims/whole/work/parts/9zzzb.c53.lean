abbrev sL (T : zT) (S : Nat) : List (Int → Int) := sLay (nT T) (mayT T) 6 (mtA (tLet T S))
def dC (T : zT) (S : Nat) (mt : Int → Int) (i : Nat) : List Int := sCL T.2.2.2.toNat (cCode T.1 T.2.1 T.2.2.1) (sMk (tLet T S) mt) i 0
theorem let_lt (T : zT) (S : Nat) : tLet T S < 2 ^ nT T := zmask_lt _ _
theorem let_31 {T : zT} {X : Int → Int} (h : tA T X) (S : Nat) : tLet T S < 2147483648 := by
  have := tLet_lt (T := T) (st := S) (tA_l h).1.2
  omega
theorem sL_len {T : zT} {X : Int → Int} (h : tA T X) (S : Nat) : (sL T S).length ≤ 10395 := by
  have := (tb_rg (may := mayT T) (tA_n h) (tLet T S)).2
  unfold tb at this
  show (sLay (nT T) (mayT T) 6 (mtA (tLet T S))).length ≤ 10395
  omega
theorem dC_n {T : zT} {S : Nat} {mt : Int → Int} {i : Nat} (h : sMk (tLet T S) mt (i : Int) < (i : Int)) : dC T S mt (i + 1) = dC T S mt i := by
  unfold dC sCL
  rw [sCat_snoc, show (0 : Int) + (i : Int) = (i : Int) by omega, if_pos h, List.append_nil]
theorem dC_c {T : zT} {S : Nat} {mt : Int → Int} {i : Nat} (h : ¬ sMk (tLet T S) mt (i : Int) < (i : Int)) : dC T S mt (i + 1) = dC T S mt i ++ [cCode T.1 T.2.1 T.2.2.1 (i : Int) (sMk (tLet T S) mt (i : Int))] := by
  unfold dC sCL
  rw [sCat_snoc, show (0 : Int) + (i : Int) = (i : Int) by omega, if_neg h]
theorem sMk_un {A n : Nat} {mt : Int → Int} {i : Nat} (hn : n ≤ 12) (h : zb (A.testBit i = true) = 0) (hi : i < n) : sMk A mt (i : Int) < (i : Int) := by
  rw [sMk_in (by omega) (by omega), Int.toNat_natCast, if_neg (fun e => by rw [zb_t e] at h; omega)]
  omega
theorem sMk_cv {A n : Nat} {may : Int → Int → Bool} {mt : Int → Int} {i : Nat} (hn : n ≤ 12) (hr : rOk n may A mt) (h : ¬ zb (A.testBit i = true) = 0) (hi : i < n) : 0 ≤ sMk A mt (i : Int) := hr.2.2.1 i hi (Classical.byContradiction (fun e => h (zb_f e)))
theorem dg_cv {n : Nat} {M : Int → Int} {i : Nat} (h : 0 ≤ M (i : Int)) (hi : i < n) : ((dg M ((n : Nat) : Int) i : Nat) : Int) = M (i : Int) := by
  unfold dg
  rw [if_pos ⟨by omega, h⟩, Int.toNat_of_nonneg h]
theorem op_le {n : Nat} {M : Int → Int} (h : pIv n M) : 2 * sOp M n ≤ n := by
  have e1 : sOp M n = zsum (fun x => zb (0 ≤ M x ∧ M x < x)) n 0 := by
    unfold sOp
    rw [← zsum_inv (σ := fun x => if 0 ≤ M x then M x else x) (G := fun i => zb (i < M i)) (fun x x0 x1 => by
      by_cases z : 0 ≤ M x
      · have g := h x x0 x1 z
        try dsimp only
        rw [if_pos z, if_pos (by rw [g.2.2]; exact x0), g.2.2]
        exact ⟨⟨z, g.1⟩, rfl⟩
      · try dsimp only
        rw [if_neg z, if_neg z]
        exact ⟨⟨x0, x1⟩, rfl⟩)]
    refine zsum_congr (fun x x0 x1 => zb_congr ?_)
    by_cases z : 0 ≤ M x
    · have g := h x x0 (by omega) z
      rw [if_pos z, g.2.2]
      omega
    · rw [if_neg z]
      omega
  have l := zsum_le (f := fun x => zb (x < M x) + zb (0 ≤ M x ∧ M x < x)) (g := fun _ => 1) (j := n) (k := 0) (fun x x0 x1 => by
    try dsimp only
    by_cases z : x < M x
    · rw [zb_t z, zb_f (by omega)]; decide
    · rw [zb_f z]
      have := zb01 (0 ≤ M x ∧ M x < x)
      omega)
  rw [zsum_add, zsum_k1, ← e1] at l
  have e3 : sOp M n = zsum (fun i => zb (i < M i)) n 0 := rfl
  omega
theorem dC_5 {T : zT} {S : Nat} {mt : Int → Int} {i : Nat} (hn : nT T ≤ 12) (h : pIv (nT T) (sMk (tLet T S) mt)) (hi : i < nT T) (hm : (i : Int) < sMk (tLet T S) mt (i : Int)) : (dC T S mt i).length ≤ 5 := by
  have ho := op_le h
  have hs : ∀ x : Int, 0 ≤ x → x < ((nT T : Nat) : Int) → sMk (tLet T S) mt x < x ∨ x < sMk (tLet T S) mt x := fun x x0 x1 => by
    by_cases z : 0 ≤ sMk (tLet T S) mt x
    · have := (h x x0 x1 z).2.1; omega
    · omega
  have hl := sCL_len2 (N := T.2.2.2.toNat) (code := cCode T.1 T.2.1 T.2.2.1) (k := i) hs (by omega)
  unfold sOp at ho
  rw [show nT T = i + (nT T - i - 1 + 1) by omega, zsum_app, zsum_s, show (0 : Int) + (i : Int) = (i : Int) by omega, zb_t hm] at ho
  have hz := zsum_bd (f := fun i => zb (i < sMk (tLet T S) mt i)) (b := 1) (j := nT T - i - 1) (k := (i : Int) + 1) (fun x _ _ => by have := zb01 (x < sMk (tLet T S) mt x); omega)
  unfold dC
  omega
theorem gGr_cg {m : zM} {g : Int} {L : Nat} {fr to' fr2 to2 : Nat → Nat} {W : Nat} (h : gGr m g L fr to' W) (e : ∀ k, k < L → fr k = fr2 k ∧ to' k = to2 k) : gGr m g L fr2 to2 W := ⟨⟨h.1.1, h.1.2.1, fun k hk => by rw [← (e k hk).1, ← (e k hk).2]; exact h.1.2.2 k hk⟩, h.2.1, fun p hp => by rw [h.2.2 p hp, gNb_congr e]⟩
theorem gGr_ap {m : zM} {g : Int} {l : List Int} {x : Int} {S : Nat} (h : gGr m g (l.length + 1) (fun k => if k = l.length then (x / 100).toNat else gFr (lf l) k) (fun k => if k = l.length then (x / 10 % 10).toNat else gTo (lf l) k) S) : gGr m g (l ++ [x]).length (gFr (lf (l ++ [x]))) (gTo (lf (l ++ [x]))) S := by
  have el : (l ++ [x]).length = l.length + 1 := by rw [List.length_append]; rfl
  rw [el]
  refine gGr_cg h (fun k hk => ?_)
  have e : lf (l ++ [x]) (k : Int) = if k = l.length then x else lf l (k : Int) := by
    unfold lf
    rw [Int.toNat_natCast, List.getD_eq_getElem?_getD]
    by_cases z : k = l.length
    · rw [if_pos z, z, List.getElem?_append_right (Nat.le_refl _), Nat.sub_self]; rfl
    · rw [if_neg z, List.getElem?_append_left (by omega), List.getD_eq_getElem?_getD]
  try dsimp only
  unfold gFr gTo
  rw [e]
  by_cases z : k = l.length
  · rw [if_pos z, if_pos z, if_pos z]; exact ⟨rfl, rfl⟩
  · rw [if_neg z, if_neg z, if_neg z]; exact ⟨rfl, rfl⟩
theorem cCode_end {c w q : Int → Int} {n i j : Int} (hw : wfC c) (hl : wfL c w q n) (hi0 : 0 ≤ i) (hi : i < n) (hj0 : 0 ≤ j) (hj : j < n) (hm : cMay c w q i j = true) : (cCode c w q i j / 100 = q i ∧ cCode c w q i j / 10 % 10 = q j) ∨ (cCode c w q i j / 100 = q j ∧ cCode c w q i j / 10 % 10 = q i) := by
  have b2 := hl.2 i hi0 hi
  have b3 := hl.2 j hj0 hj
  have b4 := hw.1
  have b5 := hw.2.2.1
  have b6 := hw.2.1
  have b7 : w i / 2 ≠ w j / 2 → 0 ≤ cMix c (w i / 2) (w j / 2) := fun h => by simp only [cMay, decide_eq_true_eq, if_neg h] at hm; exact hm.2.2.2
  have b8 : cMix c (w i / 2) (w j / 2) < c 1 := cMix_lt hw
  unfold cCode
  repeat' split
  all_goals omega
theorem on_draw {T : zT} {X : Int → Int} (h : tA T X) {S : Nat} (hS : S < 256) {k : Nat} {mt : Int → Int} (hk : (sL T S)[k]? = some mt) : gOn (dC T S mt (nT T)).length (gFr (lf (dC T S mt (nT T)))) (gTo (lf (dC T S mt (nT T)))) S := by
  have hn := tA_n h
  have hni := nT_i h
  have hr := (tab_ok (may := mayT T) hn (let_lt T S)).1 _ (List.mem_of_getElem? hk)
  refine ⟨hS, fun x hx => ?_⟩
  have hm : lf (dC T S mt (nT T)) (x : Int) ∈ dC T S mt (nT T) := by
    have := lf_get (L := dC T S mt (nT T)) (i := (x : Int)) (by omega)
    exact List.mem_of_getElem? this
  obtain ⟨i, i0, i1, i2, i3⟩ := sCL_mem hm
  have hcv : 0 ≤ sMk (tLet T S) mt i := by omega
  have hiv := hr.1 i i0 (by omega) hcv
  have hmy := hr.2.2.2 i i0 (by omega) (by omega)
  have bit : ∀ y : Int, 0 ≤ y → y < ((nT T : Nat) : Int) → 0 ≤ sMk (tLet T S) mt y → S.testBit (T.2.2.1 y).toNat = true := fun y y0 y1 hy => by
    rw [sMk_in y0 (by omega)] at hy
    have hb : (tLet T S).testBit y.toNat = true := Classical.byContradiction (fun e => by rw [if_neg e] at hy; omega)
    unfold tLet at hb
    rw [zmask_bit, Bool.and_eq_true, Int.toNat_of_nonneg y0] at hb
    exact hb.2
  have c1 := bit i i0 (by omega) hcv
  have c2 := bit _ hcv hiv.1 (by rw [hiv.2.2]; exact i0)
  show S.testBit (lf (dC T S mt (nT T)) (x : Int) / 100).toNat = true ∧ S.testBit (lf (dC T S mt (nT T)) (x : Int) / 10 % 10).toNat = true
  rw [i3]
  rcases cCode_end (tA_w h) (tA_l h) i0 (by omega) hcv (by omega) hmy with e | e
  · rw [e.1, e.2]; exact ⟨c1, c2⟩
  · rw [e.1, e.2]; exact ⟨c2, c1⟩
theorem gRs_and (N : Nat → Nat) {W A : Nat} (hW : W < 256) : gRs N W (A &&& W) = gRs N W A := by
  have h1 := gRs_is (N := N) (A := A &&& W) hW
  have h2 := gRs_is (N := N) (A := A) hW
  refine gRe_uniq (N := N) (W := W) (A := A) ?_ h2
  have e : (A &&& W) &&& W = A &&& W := by rw [Nat.and_assoc, Nat.and_self]
  unfold gRe at h1 ⊢
  rw [e] at h1
  exact h1
theorem lk_sub {c co : Int → Int} {h W : Nat} (hg : gOn h (gFr co) (gTo co) W) : gRs (gNb (gFr co) (gTo co) h) W (tOut c &&& W) = W ↔ tLost c h co W = 0 := by
  rw [gRs_and _ hg.1]
  exact linked_iff hg
theorem pt_sub {co : Int → Int} {h W : Nat} (hg : gOn h (gFr co) (gTo co) W) : cPs (gNb (gFr co) (gTo co) h) W 8 W = 1 ↔ tParts h co (-1) W = 1 := by rw [cPs_is hg]
theorem sub_2 (T : zT) (S : Nat) (mt : Int → Int) : tSub T S 2 (sMk (tLet T S) mt) = zb (tLost T.1 (dC T S mt (nT T)).length (lf (dC T S mt (nT T))) S = 0) := by
  unfold tSub
  rw [if_neg (by decide), if_neg (by decide), if_pos rfl]
  rfl
theorem sub_3 (T : zT) (S : Nat) (mt : Int → Int) : tSub T S 3 (sMk (tLet T S) mt) = zb (tParts (dC T S mt (nT T)).length (lf (dC T S mt (nT T))) (-1) S = 1) := by
  unfold tSub
  rw [if_neg (by decide), if_neg (by decide), if_neg (by decide)]
  rfl
theorem hang_sum {T : zT} {S : Nat} {wh : Int} : zsum (fun k => tSub T S wh (sMk (tLet T S) ((sL T S).getD k.toNat mt0))) (sL T S).length ((0 : Nat) : Int) = tSubs T S wh := by
  unfold tSubs
  refine zsum_lS0 rfl (fun t x e => ?_)
  rw [Int.toNat_natCast, List.getD_eq_getElem?_getD, e]
  rfl
theorem cJ_sub {m m' : zM} {E E1 : zE} {T : zT} {X : Int → Int} {t s a cap a2 cap2 ka kcap b bcap a1 cap1 : Int} (h : cJ m E T X t s a cap a2 cap2 ka kcap b bcap) (hE1 : bE E1 a cap a1 cap1 ka kcap b bcap) (h0 : m' 11 0 = a1) (h1 : m' 11 1 = a1 + 1) (f : ∀ x k : Int, x ≠ 11 → x ≠ a1 → x ≠ a1 + 1 → m' x k = m x k) : cJ m' E1 T X t s a cap a1 cap1 ka kcap b bcap ∧ qFr m m' := by
  obtain ⟨hA, hT, hW, hQ, hU, hD, hG, hE, hP, hR⟩ := h
  have ho := bE_pos hE1
  have hd := hE1.2.2.2.2.2.2.2.1
  have ht := hA.2.2.2.2.2.2.1
  have ff : ∀ x k : Int, (x ≠ 11 ∧ x ≠ a1 ∧ x ≠ a1 + 1) → m' x k = m x k := fun x k q => f x k q.1 q.2.1 q.2.2
  refine ⟨⟨bA_in hA (fun x k q => ff x k (by omega)), bT_in hT hA.2.2.2.2.1 hP.1.1.1 (fun x k q0 q1 => ff x k (by omega)), bW_in hW (fun x k q => ff x k (by omega)), bQ_in hQ (fun x k q => ff x k (by omega)), ⟨h0, h1⟩, bD_in hD (fun x k q => ff x k (by omega)), ptG_in hG (fun k q => ff 33 k (by omega)), hE1, hP, ?_⟩, fun x k q => ff x k (by omega)⟩
  rw [ff 14 19 (by omega), ff 8 5 (by omega)]
  exact hR
theorem aSub_ok {T : zT} {s w : Int} (h : (0 ≤ s ∧ s ≤ ((tAll T.1 : Nat) : Int)) ∧ (0 ≤ w ∧ w ≤ 3)) : aSub T s w = (0, tSubs T s.toNat w) := by
  unfold aSub
  rw [if_neg (not_not_intro h)]
theorem lS_one {α : Type} : ∀ L : List α, lS (fun _ => 1) L = (L.length : Int)
  | [] => rfl
  | _ :: L => by
    show 1 + lS (fun _ => 1) L = _
    rw [lS_one L, List.length_cons]
    omega
theorem subs_0 (T : zT) (S : Nat) : tb (nT T) (mayT T) (tLet T S) = tSubs T (S : Int).toNat 0 := by
  rw [Int.toNat_natCast]
  unfold tSubs tb
  rw [← lS_one]
  exact lS_mem (fun r _ => (if_pos rfl).symm)
theorem sub_1 {T : zT} : tS T (tSub T (tAll T.1) 1) = tS T (tSign T) := lS_mem (fun r _ => by
  unfold tSub
  rw [if_neg (by decide), if_pos rfl])
theorem subs_1 {T : zT} {X : Int → Int} (h : tA T X) (S : Nat) : tSubs T S 1 = lS (fun r => zpar (trR (nT T) (cOd T.1 T.2.1) (cBr T.1 T.2.1) (sMk (tLet T S) r))) (sL T S) := by
  have hn := tA_n h
  unfold tSubs
  refine lS_mem (fun r hr => ?_)
  have g := (tab_ok (may := mayT T) hn (let_lt T S)).1 r hr
  unfold tSub tSign sSign
  rw [if_neg (by decide), if_pos rfl, turn_is g.1 (fun x x0 x1 x2 => ?_)]
  have ho := odd_of h.1.2.2
  have q := g.1 x x0 x1 x2
  rcases Int.lt_trichotomy x (sMk (tLet T S) r x) with z | z | z
  · exact ho _ _ x0 x1 x2 q.1 (g.2.2.2 x x0 x1 z)
  · exact absurd z.symm q.2.1
  · have := g.2.2.2 (sMk (tLet T S) r x) x2 q.1 (by rw [q.2.2]; exact z)
    rw [q.2.2] at this
    exact (ho _ _ x2 q.1 x0 x1 this).symm
theorem sub_2a {T : zT} {X : Int → Int} (h : tA T X) : tS T (tSub T (tAll T.1) 2) = tS T (fun r => zb (tLost T.1 (tH T) (rowF T r) (tAll T.1) = 0)) := lS_mem (fun r hr => (sub_row h hr).1)
theorem sub_3a {T : zT} {X : Int → Int} (h : tA T X) : tS T (tSub T (tAll T.1) 3) = tS T (fun r => zb (tParts (tH T) (rowF T r) (-1) (tAll T.1) = 1)) := lS_mem (fun r hr => (sub_row h hr).2)
theorem l_cdraw (d : Nat) {E : zE} {m : zM} {P : Option zV → zM → Prop} (T : zT) (X : Int → Int) (t s a cap a2 cap2 ka kcap b bcap : Int) (hJ : cJ m E T X t s a cap a2 cap2 ka kcap b bcap) (S : Nat) (hS : S < 256) (hT : pTb m 11 a2 (nT T) (cOd T.1 T.2.1) (cBr T.1 T.2.1) (tLet T S) (sL T S) 0) (hcp : ((sL T S).length : Int) ≤ cap2) (k : Nat) (mt : Int → Int) (hk : (sL T S)[k]? = some mt) : ∀ (j : Nat) (i : Nat) (m1 : zM), (i + j = nT T) → (zfr (fG 33) m m1) → (ptG m1 33) → (gGr m1 33 (dC T S mt i).length (gFr (lf (dC T S mt i))) (gTo (lf (dC T S mt i))) S) → (∀ m2, zfr (fG 33) m m2 → gGr m2 33 (dC T S mt (nT T)).length (gFr (lf (dC T S mt (nT T)))) (gTo (lf (dC T S mt (nT T)))) S → P none m2) → zA zX11_drawPairing (d + 2) E E P 11 [zP 0, zP 11, zI (k : Nat), zI (S : Nat), zI (i : Nat), zN] [] m1 E := by
  intro j
  induction j with
  | zero =>
    intro i m1 hi hf hp hg hP
    have htt := cJ_t hJ
    obtain ⟨hj, hq, _⟩ := cJ_g33 hJ hf
    have ho := bE_pos hJ.2.2.2.2.2.2.2.1
    have hA0 := hJ.2.2.2.2.2.2.2.2.1
    have hni := nT_i hA0
    have hn := tA_n hA0
    have hT1 := pTb_in hT (fun x k q => hf x k (by simp [fG]; omega) (by simp [fG]; omega))
    have hok := (tab_ok (may := mayT T) hn (let_lt T S)).1
    have hlb := sL_len hA0 S
    have hA31 := let_31 hA0 S
    refine z_iload dX11_drawPairing_11 rfl ?_
    refine z_aload_n dX11_drawPairing_13 rfl ?_
    refine z_gP 9 rfl (r := t) flX11_71 dX11_drawPairing_14 (sx_0 hj.2.2.2.2.2.2.2.1.1) rfl (hj.1.1.2.2.2.2.2.2.2.2.2.1) (by omega) ?_
    refine z_gIv 14 rfl flX11_108 dX11_drawPairing_17 (sx_T hj.2.2.2.2.2.2.2.1.1 (cJ_t hj)).1 rfl (hj.2.1.2.1.1) ?_
    refine z_icmp_ge (tgt := 75) dX11_drawPairing_20 rfl (fun h20 => ?_) (fun h => absurd (by omega) h)
    refine z_vret dX11_drawPairing_75 rfl rfl ?_
    rw [show i = nT T by omega] at hg
    exact hP m1 hf hg
  | succ j ih =>
    intro i m1 hi hf hp hg hP
    have htt := cJ_t hJ
    obtain ⟨hj, hq, _⟩ := cJ_g33 hJ hf
    have ho := bE_pos hJ.2.2.2.2.2.2.2.1
    have hA0 := hJ.2.2.2.2.2.2.2.2.1
    have hni := nT_i hA0
    have hn := tA_n hA0
    have hT1 := pTb_in hT (fun x k q => hf x k (by simp [fG]; omega) (by simp [fG]; omega))
    have hok := (tab_ok (may := mayT T) hn (let_lt T S)).1
    have hlb := sL_len hA0 S
    have hA31 := let_31 hA0 S
    have hr := hok _ (List.mem_of_getElem? hk)
    have hiv := hr.1 (i : Int) (by omega) (by omega)
    refine z_iload dX11_drawPairing_11 rfl ?_
    refine z_aload_n dX11_drawPairing_13 rfl ?_
    refine z_gP 9 rfl (r := t) flX11_71 dX11_drawPairing_14 (sx_0 hj.2.2.2.2.2.2.2.1.1) rfl (hj.1.1.2.2.2.2.2.2.2.2.2.1) (by omega) ?_
    refine z_gIv 14 rfl flX11_108 dX11_drawPairing_17 (sx_T hj.2.2.2.2.2.2.2.1.1 (cJ_t hj)).1 rfl (hj.2.1.2.1.1) ?_
    refine z_icmp_ge (tgt := 75) dX11_drawPairing_20 rfl (fun h => absurd h (by omega)) (fun h20 => ?_)
    refine z_aload_n dX11_drawPairing_23 rfl ?_
    refine z_gIv 3 rfl flX11_413 dX11_drawPairing_24 (sx_11 hj.2.2.2.2.2.2.2.1.1) rfl hT1.2.2.2.1 ?_
    refine z_iload dX11_drawPairing_27 rfl ?_
    refine z_ishr dX11_drawPairing_29 ?_
    refine z_iconst dX11_drawPairing_30 (by decide) ?_
    refine z_iand dX11_drawPairing_31 ?_
    rw [zbit hA31 (by omega)]
    refine z_if_eq (tgt := 69) dX11_drawPairing_32 rfl (fun h32 => ?_) (fun h32 => ?_)
    · have hun := sMk_un (mt := mt) hn h32 (show i < nT T by omega)
      refine z_inc dX11_drawPairing_69 rfl (by omega) ?_
      refine z_goto (tgt := 11) dX11_drawPairing_72 rfl ?_
      try dsimp only [zs0, zsI, zsP, zsN, zsJ, zsS, zst2, Nat.reduceAdd]
      refine zA_wk [_, _, _, _, _, zN] (by exact ⟨Or.inr rfl, Or.inr rfl, Or.inr rfl, Or.inr rfl, Or.inr rfl, Or.inl rfl, trivial⟩) ?_
      exact ih (i + 1) m1 (by omega) hf hp (by rw [dC_n (by omega)]; exact hg) hP
    · have hcv := sMk_cv hn hr h32 (show i < nT T by omega)
      have hiv2 := hiv hcv
      have hdg := dg_cv (n := nT T) hcv (show i < nT T by omega)
      refine z_aload_n dX11_drawPairing_35 rfl ?_
      refine z_iload_n dX11_drawPairing_36 rfl ?_
      refine z_iload dX11_drawPairing_37 rfl ?_
      refine z_callV mlX11_265 dX11_drawPairing_39 (sx_11 hj.2.2.2.2.2.2.2.1.1) (av := [_, _]) rfl rfl (Nat.le_of_ble_eq_true rfl) (c_tMate _ 11 a2 cap2 (sx_11 hj.2.2.2.2.2.2.2.1.1) hj.2.2.2.2.2.2.2.1.2.2.1.1 hj.2.2.2.2.2.2.2.1.2.2.1.2 (by omega) (nT T) hn (mayT T) (cOd T.1 T.2.1) (cBr T.1 T.2.1) (tLet T S) (sL T S) 0 hT1 hok hcp hlb (by omega) k mt hk i (by omega)) (Nat.le_refl _) (Nat.le_refl _) (Nat.le_refl _) (Nat.le_refl _) ?_
      rintro _ _ ⟨rfl, rfl⟩
      rw [hdg]
      refine z_istore dX11_drawPairing_42 (Nat.le_of_ble_eq_true rfl) ?_
      refine z_iload dX11_drawPairing_44 rfl ?_
      refine z_iload dX11_drawPairing_46 rfl ?_
      try dsimp only [zs0, zsI, zsP, zsN, zsJ, zsS, zst2, Nat.reduceAdd]
      refine z_icmp_ge (tgt := 69) dX11_drawPairing_48 rfl (fun h48 => ?_) (fun h48 => ?_)
      · refine z_inc dX11_drawPairing_69 rfl (by omega) ?_
        refine z_goto (tgt := 11) dX11_drawPairing_72 rfl ?_
        try dsimp only [zs0, zsI, zsP, zsN, zsJ, zsS, zst2, Nat.reduceAdd]
        refine zA_wk [_, _, _, _, _, zN] (by exact ⟨Or.inr rfl, Or.inr rfl, Or.inr rfl, Or.inr rfl, Or.inr rfl, Or.inl rfl, trivial⟩) ?_
        exact ih (i + 1) m1 (by omega) hf hp (by rw [dC_n (by omega)]; exact hg) hP
      · have hmy : mayT T (i : Int) ((sMk (tLet T S) mt) (i : Int)) = true := hr.2.2.2 (i : Int) (by omega) (by omega) (by omega)
        have hcr := cCode_rg (tA_w hA0) (tA_l hA0) (show (0 : Int) ≤ (i : Int) by omega) (by omega) hcv (by omega) hmy
        have hw3 := (tA_w hA0).2.2.1
        have hl5 := dC_5 (T := T) (S := S) (mt := mt) hn hr.1 (show i < nT T by omega) (by omega)
        refine z_aload_n dX11_drawPairing_51 rfl ?_
        refine z_gP 7 rfl (r := 33) flX11_57 dX11_drawPairing_52 (sx_0 hj.2.2.2.2.2.2.2.1.1) rfl (hj.1.1.2.2.2.2.2.2.2.1) (by omega) ?_
        refine z_aload_n dX11_drawPairing_55 rfl ?_
        refine z_gP 9 rfl (r := t) flX11_71 dX11_drawPairing_56 (sx_0 hj.2.2.2.2.2.2.2.1.1) rfl (hj.1.1.2.2.2.2.2.2.2.2.2.1) (by omega) ?_
        refine z_iload dX11_drawPairing_59 rfl ?_
        refine z_iload dX11_drawPairing_61 rfl ?_
        refine z_callV mlX11_214 dX11_drawPairing_63 (sx_T hj.2.2.2.2.2.2.2.1.1 (cJ_t hj)).1 (av := [_, _]) rfl rfl (Nat.le_of_ble_eq_true rfl) (c_codeOf _ t (cJ_t0 hj) (sx_T hj.2.2.2.2.2.2.2.1.1 (cJ_t hj)) (hj.1.2.2.2.2.1) T.1 (wfD_of (tA_w hj.2.2.2.2.2.2.2.2.1)) (hj.2.1.1) T.2.1 T.2.2.1 T.2.2.2 (tA_l hj.2.2.2.2.2.2.2.2.1) (hj.2.1.2.1) (i : Int) ((sMk (tLet T S) mt) (i : Int)) (by omega) (by omega) (by omega) (by omega) hmy) (Nat.le_refl _) (Nat.le_refl _) (Nat.le_refl _) (Nat.le_refl _) ?_
        rintro _ _ ⟨rfl, rfl⟩
        refine z_callV mlX11_416 dX11_drawPairing_66 (sx_G33 hj.2.2.2.2.2.2.2.1.1).1 (av := [_]) rfl rfl (Nat.le_of_ble_eq_true rfl) (c_addLine _ 33 (by omega) (sx_G33 hj.2.2.2.2.2.2.2.1.1) hp _ _ _ _ hg (cCode T.1 T.2.1 T.2.2.1 (i : Int) ((sMk (tLet T S) mt) (i : Int))) (cCode T.1 T.2.1 T.2.2.1 (i : Int) ((sMk (tLet T S) mt) (i : Int)) / 100).toNat (cCode T.1 T.2.1 T.2.2.1 (i : Int) ((sMk (tLet T S) mt) (i : Int)) / 10 % 10).toNat hcr.1 (by omega) (by omega) (by omega) (by omega) (by omega)) (Nat.le_refl _) (Nat.le_refl _) (Nat.le_refl _) (Nat.le_refl _) ?_
        rintro _ m2 ⟨rfl, f2, g2, p2⟩
        obtain ⟨hj2, _, _⟩ := cJ_g33 hJ (zfr_tr hf f2)
        refine z_inc dX11_drawPairing_69 rfl (by omega) ?_
        refine z_goto (tgt := 11) dX11_drawPairing_72 rfl ?_
        try dsimp only [zs0, zsI, zsP, zsN, zsJ, zsS, zst2, Nat.reduceAdd]
        refine zA_wk [_, _, _, _, _, zN] (by exact ⟨Or.inr rfl, Or.inr rfl, Or.inr rfl, Or.inr rfl, Or.inr rfl, Or.inl rfl, trivial⟩) ?_
        exact ih (i + 1) m2 (by omega) (zfr_tr hf f2) p2 (by rw [dC_c (by omega)]; exact gGr_ap g2) hP

theorem c_draw (d : Nat) {E : zE} {m : zM} (T : zT) (X : Int → Int) (t s a cap a2 cap2 ka kcap b bcap : Int) (hJ : cJ m E T X t s a cap a2 cap2 ka kcap b bcap) (S : Nat) (hS : S < 256) (hT : pTb m 11 a2 (nT T) (cOd T.1 T.2.1) (cBr T.1 T.2.1) (tLet T S) (sL T S) 0) (hcp : ((sL T S).length : Int) ≤ cap2) (k : Nat) (mt : Int → Int) (hk : (sL T S)[k]? = some mt) : zR zX11_drawPairing (d + 2) [zP 0, zP 11, zI (k : Nat), zI (S : Nat)] m E E (fun r m' => r = none ∧ zfr (fG 33) m m' ∧ gGr m' 33 (dC T S mt (nT T)).length (gFr (lf (dC T S mt (nT T)))) (gTo (lf (dC T S mt (nT T)))) S) := by
  have htt := cJ_t hJ
  refine zR_go [zP 0, zP 11, zI (k : Nat), zI (S : Nat), zN, zN] (by decide +kernel) (Nat.le_of_ble_eq_true rfl) rfl rfl ?_
  refine z_aload_n dX11_drawPairing_0 rfl ?_
  refine z_gP 7 rfl (r := 33) flX11_57 dX11_drawPairing_1 (sx_0 hJ.2.2.2.2.2.2.2.1.1) rfl (hJ.1.1.2.2.2.2.2.2.2.1) (by omega) ?_
  refine z_iload_n dX11_drawPairing_4 rfl ?_
  refine z_callV mlX11_411 dX11_drawPairing_5 (sx_G33 hJ.2.2.2.2.2.2.2.1.1).1 (av := [_]) rfl rfl (Nat.le_of_ble_eq_true rfl) (c_clear _ 33 (by omega) (sx_G33 hJ.2.2.2.2.2.2.2.1.1) hJ.2.2.2.2.2.2.1 S (gFr (lf (dC T S mt 0))) (gTo (lf (dC T S mt 0)))) (Nat.le_refl _) (Nat.le_refl _) (Nat.le_refl _) (Nat.le_refl _) ?_
  rintro _ m1 ⟨rfl, f1, g1, p1⟩
  obtain ⟨hj1, _, _⟩ := cJ_g33 hJ f1
  refine z_iconst dX11_drawPairing_8 (by decide) ?_
  refine z_istore dX11_drawPairing_9 (Nat.le_of_ble_eq_true rfl) ?_
  try dsimp only [zs0, zsI, zsP, zsN, zsJ, zsS, zst2, Nat.reduceAdd]
  exact l_cdraw d T X t s a cap a2 cap2 ka kcap b bcap hJ S hS hT hcp k mt hk (nT T) 0 m1 (by omega) f1 p1 g1 (fun m2 f2 g2 => ⟨rfl, f2, g2⟩)

theorem l_chang (d : Nat) {E : zE} {m : zM} {P : Option zV → zM → Prop} {E0 : zE} (T : zT) (X : Int → Int) (t s a cap a2 cap2 ka kcap b bcap : Int) (hJ : cJ m E T X t s a cap a2 cap2 ka kcap b bcap) (S : Nat) (hS : S < 256) (hT : pTb m 11 a2 (nT T) (cOd T.1 T.2.1) (cBr T.1 T.2.1) (tLet T S) (sL T S) 0) (hcp : ((sL T S).length : Int) ≤ cap2) (on wh : Int) (how : (on = 1 ∧ wh = 2) ∨ (on = 0 ∧ wh = 3)) : ∀ (j : Nat) (k : Nat) (v : Int) (m1 : zM), (k + j = (sL T S).length) → (0 ≤ v ∧ v ≤ k) → (zfr (fG 33) m m1) → (∀ m2, zfr (fG 33) m m2 → P (some (zI (v + zsum (fun k => tSub T S wh (sMk (tLet T S) ((sL T S).getD k.toNat mt0))) j (k : Int)))) m2) → zA zX11_countHanging (d + 3) E0 E P 17 [zP 0, zP 11, zI (S : Nat), zI on, zI ((tOut T.1 &&& S : Nat) : Int), zI v, zI (k : Nat)] [] m1 E := by
  intro j
  induction j with
  | zero =>
    intro k v m1 hi hv hf hP
    have htt := cJ_t hJ
    obtain ⟨hj, hq, _⟩ := cJ_g33 hJ hf
    have ho := bE_pos hJ.2.2.2.2.2.2.2.1
    have hA0 := hJ.2.2.2.2.2.2.2.2.1
    have hT1 := pTb_in hT (fun x k q => hf x k (by simp [fG]; omega) (by simp [fG]; omega))
    have hlb := sL_len hA0 S
    refine z_iload dX11_countHanging_17 rfl ?_
    refine z_aload_n dX11_countHanging_19 rfl ?_
    refine z_gIv 2 rfl flX11_320 dX11_countHanging_20 (sx_11 hj.2.2.2.2.2.2.2.1.1) rfl hT1.2.2.1 ?_
    refine z_icmp_ge (tgt := 75) dX11_countHanging_23 rfl (fun h23 => ?_) (fun h => absurd (by omega) h)
    refine z_iload dX11_countHanging_75 rfl ?_
    refine z_iret dX11_countHanging_77 rfl rfl ?_
    have hh := hP m1 hf
    rw [zsum_0, Int.add_zero] at hh
    exact hh
  | succ j ih =>
    intro k v m1 hi hv hf hP
    have htt := cJ_t hJ
    obtain ⟨hj, hq, _⟩ := cJ_g33 hJ hf
    have ho := bE_pos hJ.2.2.2.2.2.2.2.1
    have hA0 := hJ.2.2.2.2.2.2.2.2.1
    have hT1 := pTb_in hT (fun x k q => hf x k (by simp [fG]; omega) (by simp [fG]; omega))
    have hlb := sL_len hA0 S
    have hk := List.getElem?_eq_getElem (l := sL T S) (i := k) (by omega)
    have hmt : (sL T S).getD (k : Int).toNat mt0 = (sL T S)[k] := by rw [Int.toNat_natCast, List.getD_eq_getElem?_getD, hk]; rfl
    have hon2 := on_draw hA0 hS hk
    refine z_iload dX11_countHanging_17 rfl ?_
    refine z_aload_n dX11_countHanging_19 rfl ?_
    refine z_gIv 2 rfl flX11_320 dX11_countHanging_20 (sx_11 hj.2.2.2.2.2.2.2.1.1) rfl hT1.2.2.1 ?_
    refine z_icmp_ge (tgt := 75) dX11_countHanging_23 rfl (fun h => absurd h (by omega)) (fun h23 => ?_)
    refine z_aload_n dX11_countHanging_26 rfl ?_
    refine z_aload_n dX11_countHanging_27 rfl ?_
    refine z_iload dX11_countHanging_28 rfl ?_
    refine z_iload_n dX11_countHanging_30 rfl ?_
    refine z_callV mlX11_404 dX11_countHanging_31 (sx_0 hj.2.2.2.2.2.2.2.1.1) (av := [_, _, _]) rfl rfl (Nat.le_of_ble_eq_true rfl) (c_draw _ T X t s a cap a2 cap2 ka kcap b bcap hj S hS hT1 hcp k _ hk) (Nat.le_refl _) (Nat.le_refl _) (Nat.le_refl _) (Nat.le_refl _) ?_
    rintro _ m2 ⟨rfl, f2, hg⟩
    obtain ⟨hj2, _, _⟩ := cJ_g33 hj f2
    refine z_iload_n dX11_countHanging_34 rfl ?_
    refine z_if_eq (tgt := 55) dX11_countHanging_35 rfl (fun h35 => ?_) (fun h35 => ?_)
    · refine z_aload_n dX11_countHanging_55 rfl ?_
      refine z_gP 7 rfl (r := 33) flX11_57 dX11_countHanging_56 (sx_0 hj2.2.2.2.2.2.2.2.1.1) rfl (hj2.1.1.2.2.2.2.2.2.2.1) (by omega) ?_
      refine z_callV mlX11_408 dX11_countHanging_59 (sx_G33 hj2.2.2.2.2.2.2.2.1.1).1 (av := _) rfl rfl (Nat.le_of_ble_eq_true rfl) (c_partCount _ 33 (by omega) (sx_G33 hj2.2.2.2.2.2.2.2.1.1) hj2.2.2.2.2.2.2.1 _ (gNb_lg hg) hg.2.2 S hS hg.2.1) (Nat.le_refl _) (Nat.le_refl _) (Nat.le_refl _) (Nat.le_refl _) ?_
      rintro _ _ ⟨rfl, rfl⟩
      refine z_iconst dX11_countHanging_62 (by decide) ?_
      refine z_icmp_ne (tgt := 69) dX11_countHanging_63 rfl (fun h63 => ?_) (fun h63 => ?_)
      · refine z_inc dX11_countHanging_69 rfl (by omega) ?_
        refine z_goto (tgt := 17) dX11_countHanging_72 rfl ?_
        try dsimp only [zs0, zsI, zsP, zsN, zsJ, zsS, zst2, Nat.reduceAdd]
        refine zA_wk [_, _, _, _, _, _, _] (by exact ⟨Or.inr rfl, Or.inr rfl, Or.inr rfl, Or.inr rfl, Or.inr rfl, Or.inr rfl, Or.inr rfl, trivial⟩) ?_
        have hpt := pt_sub hon2
        have hw2 : wh = 3 := by omega
        have hF : tSub T S wh (sMk (tLet T S) ((sL T S).getD (k : Int).toNat mt0)) = 0 := by
          rw [hmt, hw2]
          exact (sub_3 _ _ _).trans (zb_f (fun h => absurd (hpt.mpr h) (by omega)))
        refine ih (k + 1) v m2 (by omega) (by omega) (zfr_tr hf f2) (fun m3 f3 => ?_)
        have hh := hP m3 f3
        rw [zsum_s, hF, ← Int.add_assoc] at hh
        rw [Int.add_zero] at hh
        exact hh
      · refine z_inc dX11_countHanging_66 rfl (by omega) ?_
        refine z_inc dX11_countHanging_69 rfl (by omega) ?_
        refine z_goto (tgt := 17) dX11_countHanging_72 rfl ?_
        try dsimp only [zs0, zsI, zsP, zsN, zsJ, zsS, zst2, Nat.reduceAdd]
        refine zA_wk [_, _, _, _, _, _, _] (by exact ⟨Or.inr rfl, Or.inr rfl, Or.inr rfl, Or.inr rfl, Or.inr rfl, Or.inr rfl, Or.inr rfl, trivial⟩) ?_
        have hpt := pt_sub hon2
        have hw2 : wh = 3 := by omega
        have hF : tSub T S wh (sMk (tLet T S) ((sL T S).getD (k : Int).toNat mt0)) = 1 := by
          rw [hmt, hw2]
          exact (sub_3 _ _ _).trans (zb_t (hpt.mp (by omega)))
        refine ih (k + 1) (v + 1) m2 (by omega) (by omega) (zfr_tr hf f2) (fun m3 f3 => ?_)
        have hh := hP m3 f3
        rw [zsum_s, hF, ← Int.add_assoc] at hh
        exact hh
    · refine z_aload_n dX11_countHanging_38 rfl ?_
      refine z_gP 7 rfl (r := 33) flX11_57 dX11_countHanging_39 (sx_0 hj2.2.2.2.2.2.2.2.1.1) rfl (hj2.1.1.2.2.2.2.2.2.2.1) (by omega) ?_
      refine z_iload dX11_countHanging_42 rfl ?_
      refine z_iload_n dX11_countHanging_44 rfl ?_
      refine z_callV mlX11_338 dX11_countHanging_45 (sx_G33 hj2.2.2.2.2.2.2.2.1.1).1 (av := [_, _]) rfl rfl (Nat.le_of_ble_eq_true rfl) (c_reach _ 33 (by omega) (sx_G33 hj2.2.2.2.2.2.2.2.1.1) hj2.2.2.2.2.2.2.1 _ (gNb_lg hg) hg.2.2 (tOut T.1 &&& S) S (Nat.lt_of_le_of_lt Nat.and_le_right hS) hS) (Nat.le_refl _) (Nat.le_refl _) (Nat.le_refl _) (Nat.le_refl _) ?_
      rintro _ _ ⟨rfl, rfl⟩
      refine z_iload_n dX11_countHanging_48 rfl ?_
      refine z_icmp_ne (tgt := 69) dX11_countHanging_49 rfl (fun h49 => ?_) (fun h49 => ?_)
      · refine z_inc dX11_countHanging_69 rfl (by omega) ?_
        refine z_goto (tgt := 17) dX11_countHanging_72 rfl ?_
        try dsimp only [zs0, zsI, zsP, zsN, zsJ, zsS, zst2, Nat.reduceAdd]
        refine zA_wk [_, _, _, _, _, _, _] (by exact ⟨Or.inr rfl, Or.inr rfl, Or.inr rfl, Or.inr rfl, Or.inr rfl, Or.inr rfl, Or.inr rfl, trivial⟩) ?_
        have hlk := lk_sub (c := T.1) hon2
        have hw2 : wh = 2 := by omega
        have hF : tSub T S wh (sMk (tLet T S) ((sL T S).getD (k : Int).toNat mt0)) = 0 := by
          rw [hmt, hw2]
          exact (sub_2 _ _ _).trans (zb_f (fun h => absurd (hlk.mpr h) (by omega)))
        refine ih (k + 1) v m2 (by omega) (by omega) (zfr_tr hf f2) (fun m3 f3 => ?_)
        have hh := hP m3 f3
        rw [zsum_s, hF, ← Int.add_assoc] at hh
        rw [Int.add_zero] at hh
        exact hh
      · refine z_goto (tgt := 66) dX11_countHanging_52 rfl ?_
        refine z_inc dX11_countHanging_66 rfl (by omega) ?_
        refine z_inc dX11_countHanging_69 rfl (by omega) ?_
        refine z_goto (tgt := 17) dX11_countHanging_72 rfl ?_
        try dsimp only [zs0, zsI, zsP, zsN, zsJ, zsS, zst2, Nat.reduceAdd]
        refine zA_wk [_, _, _, _, _, _, _] (by exact ⟨Or.inr rfl, Or.inr rfl, Or.inr rfl, Or.inr rfl, Or.inr rfl, Or.inr rfl, Or.inr rfl, trivial⟩) ?_
        have hlk := lk_sub (c := T.1) hon2
        have hw2 : wh = 2 := by omega
        have hF : tSub T S wh (sMk (tLet T S) ((sL T S).getD (k : Int).toNat mt0)) = 1 := by
          rw [hmt, hw2]
          exact (sub_2 _ _ _).trans (zb_t (hlk.mp (by omega)))
        refine ih (k + 1) (v + 1) m2 (by omega) (by omega) (zfr_tr hf f2) (fun m3 f3 => ?_)
        have hh := hP m3 f3
        rw [zsum_s, hF, ← Int.add_assoc] at hh
        exact hh

theorem c_chang (d : Nat) {E : zE} {m : zM} (T : zT) (X : Int → Int) (t s a cap a2 cap2 ka kcap b bcap : Int) (hJ : cJ m E T X t s a cap a2 cap2 ka kcap b bcap) (S : Nat) (hS : S < 256) (hT : pTb m 11 a2 (nT T) (cOd T.1 T.2.1) (cBr T.1 T.2.1) (tLet T S) (sL T S) 0) (hcp : ((sL T S).length : Int) ≤ cap2) (on wh : Int) (how : (on = 1 ∧ wh = 2) ∨ (on = 0 ∧ wh = 3)) : zR zX11_countHanging (d + 3) [zP 0, zP 11, zI (S : Nat), zI on] m E E (fun r m' => r = some (zI (tSubs T S wh)) ∧ zfr (fG 33) m m') := by
  have htt := cJ_t hJ
  refine zR_go [zP 0, zP 11, zI (S : Nat), zI on, zN, zN, zN] (by decide +kernel) (Nat.le_of_ble_eq_true rfl) rfl rfl ?_
  refine z_aload_n dX11_countHanging_0 rfl ?_
  refine z_gP 9 rfl (r := t) flX11_71 dX11_countHanging_1 (sx_0 hJ.2.2.2.2.2.2.2.1.1) rfl (hJ.1.1.2.2.2.2.2.2.2.2.2.1) (by omega) ?_
  refine z_callV mlX11_363 dX11_countHanging_4 (sx_T hJ.2.2.2.2.2.2.2.1.1 (cJ_t hJ)).1 (av := _) rfl rfl (Nat.le_of_ble_eq_true rfl) (c_outerPoints _ t (cJ_t0 hJ) (sx_T hJ.2.2.2.2.2.2.2.1.1 (cJ_t hJ)) (hJ.1.2.2.2.2.1) T.1 (wfD_of (tA_w hJ.2.2.2.2.2.2.2.2.1)) (hJ.2.1.1)) (Nat.le_refl _) (Nat.le_refl _) (Nat.le_refl _) (Nat.le_refl _) ?_
  rintro _ _ ⟨rfl, rfl⟩
  refine z_iload_n dX11_countHanging_7 rfl ?_
  refine z_iand dX11_countHanging_8 ?_
  rw [zand_N (by have := tOut_lt (wfD_of (tA_w hJ.2.2.2.2.2.2.2.2.1)); omega)]
  refine z_istore dX11_countHanging_9 (Nat.le_of_ble_eq_true rfl) ?_
  refine z_iconst dX11_countHanging_11 (by decide) ?_
  refine z_istore dX11_countHanging_12 (Nat.le_of_ble_eq_true rfl) ?_
  refine z_iconst dX11_countHanging_14 (by decide) ?_
  refine z_istore dX11_countHanging_15 (Nat.le_of_ble_eq_true rfl) ?_
  try dsimp only [zs0, zsI, zsP, zsN, zsJ, zsS, zst2, Nat.reduceAdd]
  refine l_chang d T X t s a cap a2 cap2 ka kcap b bcap hJ S hS hT hcp on wh how (sL T S).length 0 0 m (by omega) (by omega) zfr_rf (fun m2 f2 => ?_)
  rw [Int.zero_add, hang_sum]
  exact ⟨rfl, f2⟩

theorem c_pO0 (d : Nat) {E : zE} {m : zM} (T : zT) (X : Int → Int) (t s a cap a2 cap2 ka kcap b bcap : Int) (hJ : cJ m E T X t s a cap a2 cap2 ka kcap b bcap) (S : Nat) (hS : S < 256) (hne : ((S : Nat) : Int) ≠ ((tAll T.1 : Nat) : Int)) (hr : rm (tb (nT T) (mayT T) (tLet T S)) ≤ cap2) : zR zX11_pairingsOf (d + 11) [zP 0, zI (S : Nat)] m E E (fun r m' => r = some (zP 11) ∧ cJ m' E T X t s a cap a2 cap2 ka kcap b bcap ∧ pTb m' 11 a2 (nT T) (cOd T.1 T.2.1) (cBr T.1 T.2.1) (tLet T S) (sL T S) 0 ∧ ((sL T S).length : Int) ≤ cap2 ∧ qFr m m') := by
  have ho := bE_pos hJ.2.2.2.2.2.2.2.1
  have hN := hJ.2.2.2.2.2.2.2.1.2.2.2.2.2.2.2.2.1
  have htt := cJ_t hJ
  have hlb := sL_len hJ.2.2.2.2.2.2.2.2.1 S
  refine zR_go [zP 0, zI (S : Nat)] (by decide +kernel) (Nat.le_of_ble_eq_true rfl) rfl rfl ?_
  refine z_iload_n dX11_pairingsOf_0 rfl ?_
  refine z_aload_n dX11_pairingsOf_1 rfl ?_
  refine z_gP 9 rfl (r := t) flX11_71 dX11_pairingsOf_2 (sx_0 hJ.2.2.2.2.2.2.2.1.1) rfl (hJ.1.1.2.2.2.2.2.2.2.2.2.1) (by omega) ?_
  refine z_callV mlX11_303 dX11_pairingsOf_5 (sx_T hJ.2.2.2.2.2.2.2.1.1 (cJ_t hJ)).1 (av := _) rfl rfl (Nat.le_of_ble_eq_true rfl) (c_allPoints _ t (cJ_t0 hJ) (sx_T hJ.2.2.2.2.2.2.2.1.1 (cJ_t hJ)) (hJ.1.2.2.2.2.1) T.1 (wfD_of (tA_w hJ.2.2.2.2.2.2.2.2.1)) (hJ.2.1.1)) (Nat.le_refl _) (Nat.le_refl _) (Nat.le_refl _) (Nat.le_refl _) ?_
  rintro _ _ ⟨rfl, rfl⟩
  refine z_icmp_ne (tgt := 16) dX11_pairingsOf_8 rfl (fun h8 => ?_) (fun h => absurd hne h)
  refine z_aload_n dX11_pairingsOf_16 rfl ?_
  refine z_gP 5 rfl (r := 11) flX11_44 dX11_pairingsOf_17 (sx_0 hJ.2.2.2.2.2.2.2.1.1) rfl (hJ.1.1.2.2.2.2.2.1) (by omega) ?_
  refine z_aload_n dX11_pairingsOf_20 rfl ?_
  refine z_gP 9 rfl (r := t) flX11_71 dX11_pairingsOf_21 (sx_0 hJ.2.2.2.2.2.2.2.1.1) rfl (hJ.1.1.2.2.2.2.2.2.2.2.2.1) (by omega) ?_
  refine z_aload_n dX11_pairingsOf_24 rfl ?_
  refine z_callV mlX11_296 dX11_pairingsOf_25 (sx_0 hJ.2.2.2.2.2.2.2.1.1) (av := _) rfl rfl (Nat.le_of_ble_eq_true rfl) (c_knownWays (d + 7) T X t s a cap a2 cap2 ka kcap b bcap hJ) (Nat.le_refl _) (Nat.le_refl _) (Nat.le_refl _) (Nat.le_refl _) ?_
  rintro _ m1 ⟨rfl, j1, h62, q1⟩
  refine z_aload_n dX11_pairingsOf_28 rfl ?_
  refine z_gP 9 rfl (r := t) flX11_71 dX11_pairingsOf_29 (sx_0 j1.2.2.2.2.2.2.2.1.1) rfl (j1.1.1.2.2.2.2.2.2.2.2.2.1) (by omega) ?_
  refine z_iload_n dX11_pairingsOf_32 rfl ?_
  refine z_callV mlX11_306 dX11_pairingsOf_33 (sx_T j1.2.2.2.2.2.2.2.1.1 (cJ_t j1)).1 (av := [_]) rfl rfl (Nat.le_of_ble_eq_true rfl) (c_lettersOf _ t (cJ_t0 j1) (sx_T j1.2.2.2.2.2.2.2.1.1 (cJ_t j1)) (j1.1.2.2.2.2.1) T.1 (wfD_of (tA_w j1.2.2.2.2.2.2.2.2.1)) (j1.2.1.1) T.2.1 T.2.2.1 T.2.2.2 (tA_l j1.2.2.2.2.2.2.2.2.1) (j1.2.1.2.1) S hS) (Nat.le_refl _) (Nat.le_refl _) (Nat.le_refl _) (Nat.le_refl _) ?_
  rintro _ _ ⟨rfl, rfl⟩
  refine z_callV mlX11_386 dX11_pairingsOf_36 (sx_11 j1.2.2.2.2.2.2.2.1.1) (av := [_, _, _]) rfl rfl (Nat.le_of_ble_eq_true rfl) (c_fill0 d 11 a2 cap2 (sx_11 j1.2.2.2.2.2.2.2.1.1) j1.2.2.2.2.2.2.2.1.2.2.1.1 j1.2.2.2.2.2.2.2.1.2.2.1.2 (by omega) (by omega) (by omega) (by omega) (by omega) (by omega) (sx_6 j1.2.2.2.2.2.2.2.1.1) (sx_7 j1.2.2.2.2.2.2.2.1.1) t (by omega) (sx_T j1.2.2.2.2.2.2.2.1.1 (cJ_t j1)) (by omega) (by omega) T.1 T.2.1 T.2.2.1 T.2.2.2 (wfD_of (tA_w j1.2.2.2.2.2.2.2.2.1)) (tA_l j1.2.2.2.2.2.2.2.2.1) (bar_of (tA_w j1.2.2.2.2.2.2.2.2.1) j1.2.2.2.2.2.2.2.2.1.2.1 j1.2.2.2.2.2.2.2.2.1.1.2.2) (tLet T S) (let_lt T S) j1.2.2.2.2.1.1 j1.2.2.2.2.1.2 j1.2.2.1.1 (j1.2.2.1.2.2 h62) j1.1.2.2.2.2.1 j1.2.1.2.1 hr) (Nat.le_refl _) (Nat.le_refl _) (Nat.le_refl _) (Nat.le_refl _) ?_
  rintro _ m2 ⟨rfl, f2, b2, h2⟩
  obtain ⟨j2, q2⟩ := cJ_sub j1 (m' := m2) j1.2.2.2.2.2.2.2.1 b2.1 b2.2.1 (fun x k n8 na nb => f2 x k (by simp [fPt]; omega) (by simp [fPt]))
  refine z_aload_n dX11_pairingsOf_39 rfl ?_
  refine z_gP 5 rfl (r := 11) flX11_44 dX11_pairingsOf_40 (sx_0 j2.2.2.2.2.2.2.2.1.1) rfl (j2.1.1.2.2.2.2.2.1) (by omega) ?_
  refine z_aret dX11_pairingsOf_43 rfl rfl ?_
  exact ⟨rfl, j2, b2, (by have := rm_ge (x := (((sL T S).length : Nat) : Int)) (by omega); have : rm (((sL T S).length : Nat) : Int) ≤ cap2 := hr; omega), qFr_tr q1.1 q2⟩

theorem c_pOg (d : Nat) {E : zE} {m : zM} (T : zT) (X : Int → Int) (t s a cap a2 cap2 ka kcap b bcap : Int) (hJ : cJ m E T X t s a cap a2 cap2 ka kcap b bcap) (S : Nat) (hS : S < 256) (hne : ((S : Nat) : Int) ≠ ((tAll T.1 : Nat) : Int)) (hr : cap2 < rm (tb (nT T) (mayT T) (tLet T S))) : zR zX11_pairingsOf (d + 11) [zP 0, zI (S : Nat)] m E (znew (znew E 2 (rm (tb (nT T) (mayT T) (tLet T S))) (rm (tb (nT T) (mayT T) (tLet T S))).toNat) 1 (rm (tb (nT T) (mayT T) (tLet T S))) (rm (tb (nT T) (mayT T) (tLet T S))).toNat) (fun r m' => r = some (zP 11) ∧ cJ m' (znew (znew E 2 (rm (tb (nT T) (mayT T) (tLet T S))) (rm (tb (nT T) (mayT T) (tLet T S))).toNat) 1 (rm (tb (nT T) (mayT T) (tLet T S))) (rm (tb (nT T) (mayT T) (tLet T S))).toNat) T X t s a cap (E.2.1 : Int) (rm (tb (nT T) (mayT T) (tLet T S))) ka kcap b bcap ∧ pTb m' 11 (E.2.1 : Int) (nT T) (cOd T.1 T.2.1) (cBr T.1 T.2.1) (tLet T S) (sL T S) 0 ∧ ((sL T S).length : Int) ≤ (rm (tb (nT T) (mayT T) (tLet T S))) ∧ qFr m m') := by
  have ho := bE_pos hJ.2.2.2.2.2.2.2.1
  have hN := hJ.2.2.2.2.2.2.2.1.2.2.2.2.2.2.2.2.1
  have htt := cJ_t hJ
  have hlb := sL_len hJ.2.2.2.2.2.2.2.2.1 S
  have lA : E.2.1 ≤ (znew (znew E 2 (rm (tb (nT T) (mayT T) (tLet T S))) (rm (tb (nT T) (mayT T) (tLet T S))).toNat) 1 (rm (tb (nT T) (mayT T) (tLet T S))) (rm (tb (nT T) (mayT T) (tLet T S))).toNat).2.1 := by show E.2.1 ≤ E.2.1 + 2; omega
  have lB : E.2.2 ≤ (znew (znew E 2 (rm (tb (nT T) (mayT T) (tLet T S))) (rm (tb (nT T) (mayT T) (tLet T S))).toNat) 1 (rm (tb (nT T) (mayT T) (tLet T S))) (rm (tb (nT T) (mayT T) (tLet T S))).toNat).2.2 := by show E.2.2 ≤ E.2.2 + _ + _; omega
  refine zR_go [zP 0, zI (S : Nat)] (by decide +kernel) (Nat.le_of_ble_eq_true rfl) rfl rfl ?_
  refine z_iload_n dX11_pairingsOf_0 rfl ?_
  refine z_aload_n dX11_pairingsOf_1 rfl ?_
  refine z_gP 9 rfl (r := t) flX11_71 dX11_pairingsOf_2 (sx_0 hJ.2.2.2.2.2.2.2.1.1) rfl (hJ.1.1.2.2.2.2.2.2.2.2.2.1) (by omega) ?_
  refine z_callV mlX11_303 dX11_pairingsOf_5 (sx_T hJ.2.2.2.2.2.2.2.1.1 (cJ_t hJ)).1 (av := _) rfl rfl (Nat.le_of_ble_eq_true rfl) (c_allPoints _ t (cJ_t0 hJ) (sx_T hJ.2.2.2.2.2.2.2.1.1 (cJ_t hJ)) (hJ.1.2.2.2.2.1) T.1 (wfD_of (tA_w hJ.2.2.2.2.2.2.2.2.1)) (hJ.2.1.1)) (Nat.le_refl _) (Nat.le_refl _) lA lB ?_
  rintro _ _ ⟨rfl, rfl⟩
  refine z_icmp_ne (tgt := 16) dX11_pairingsOf_8 rfl (fun h8 => ?_) (fun h => absurd hne h)
  refine z_aload_n dX11_pairingsOf_16 rfl ?_
  refine z_gP 5 rfl (r := 11) flX11_44 dX11_pairingsOf_17 (sx_0 hJ.2.2.2.2.2.2.2.1.1) rfl (hJ.1.1.2.2.2.2.2.1) (by omega) ?_
  refine z_aload_n dX11_pairingsOf_20 rfl ?_
  refine z_gP 9 rfl (r := t) flX11_71 dX11_pairingsOf_21 (sx_0 hJ.2.2.2.2.2.2.2.1.1) rfl (hJ.1.1.2.2.2.2.2.2.2.2.2.1) (by omega) ?_
  refine z_aload_n dX11_pairingsOf_24 rfl ?_
  refine z_callV mlX11_296 dX11_pairingsOf_25 (sx_0 hJ.2.2.2.2.2.2.2.1.1) (av := _) rfl rfl (Nat.le_of_ble_eq_true rfl) (c_knownWays (d + 7) T X t s a cap a2 cap2 ka kcap b bcap hJ) (Nat.le_refl _) (Nat.le_refl _) lA lB ?_
  rintro _ m1 ⟨rfl, j1, h62, q1⟩
  refine z_aload_n dX11_pairingsOf_28 rfl ?_
  refine z_gP 9 rfl (r := t) flX11_71 dX11_pairingsOf_29 (sx_0 j1.2.2.2.2.2.2.2.1.1) rfl (j1.1.1.2.2.2.2.2.2.2.2.2.1) (by omega) ?_
  refine z_iload_n dX11_pairingsOf_32 rfl ?_
  refine z_callV mlX11_306 dX11_pairingsOf_33 (sx_T j1.2.2.2.2.2.2.2.1.1 (cJ_t j1)).1 (av := [_]) rfl rfl (Nat.le_of_ble_eq_true rfl) (c_lettersOf _ t (cJ_t0 j1) (sx_T j1.2.2.2.2.2.2.2.1.1 (cJ_t j1)) (j1.1.2.2.2.2.1) T.1 (wfD_of (tA_w j1.2.2.2.2.2.2.2.2.1)) (j1.2.1.1) T.2.1 T.2.2.1 T.2.2.2 (tA_l j1.2.2.2.2.2.2.2.2.1) (j1.2.1.2.1) S hS) (Nat.le_refl _) (Nat.le_refl _) lA lB ?_
  rintro _ _ ⟨rfl, rfl⟩
  refine z_callV mlX11_386 dX11_pairingsOf_36 (sx_11 j1.2.2.2.2.2.2.2.1.1) (av := [_, _, _]) rfl rfl (Nat.le_of_ble_eq_true rfl) (c_fill1 d 11 a2 cap2 (sx_11 j1.2.2.2.2.2.2.2.1.1) j1.2.2.2.2.2.2.2.1.2.2.1.1 j1.2.2.2.2.2.2.2.1.2.2.1.2 (by omega) (by omega) (by omega) (by omega) (by omega) (by omega) (sx_6 j1.2.2.2.2.2.2.2.1.1) (sx_7 j1.2.2.2.2.2.2.2.1.1) t (by omega) (sx_T j1.2.2.2.2.2.2.2.1.1 (cJ_t j1)) (by omega) (by omega) T.1 T.2.1 T.2.2.1 T.2.2.2 (wfD_of (tA_w j1.2.2.2.2.2.2.2.2.1)) (tA_l j1.2.2.2.2.2.2.2.2.1) (bar_of (tA_w j1.2.2.2.2.2.2.2.2.1) j1.2.2.2.2.2.2.2.2.1.2.1 j1.2.2.2.2.2.2.2.2.1.1.2.2) (tLet T S) (let_lt T S) j1.2.2.2.2.1.1 j1.2.2.2.2.1.2 j1.2.2.1.1 (j1.2.2.1.2.2 h62) j1.1.2.2.2.2.1 j1.2.1.2.1 (by omega) (by omega) (by omega) (rm (tb (nT T) (mayT T) (tLet T S))) rfl hr) lA lB (Nat.le_refl _) (Nat.le_refl _) ?_
  rintro _ m2 ⟨rfl, f2, b2, h2⟩
  obtain ⟨j2, q2⟩ := cJ_sub j1 (m' := m2) (bE_sub j1.2.2.2.2.2.2.2.1 (rm_cp _) hr) b2.1 b2.2.1 (fun x k n8 na nb => f2 x k (by simp [fPt]; omega) (by simp [fPt]))
  refine z_aload_n dX11_pairingsOf_39 rfl ?_
  refine z_gP 5 rfl (r := 11) flX11_44 dX11_pairingsOf_40 (sx_0 j2.2.2.2.2.2.2.2.1.1) rfl (j2.1.1.2.2.2.2.2.1) (by omega) ?_
  refine z_aret dX11_pairingsOf_43 rfl rfl ?_
  exact ⟨rfl, j2, b2, (rm_ge (x := (((sL T S).length : Nat) : Int)) (by omega)), qFr_tr q1.1 q2⟩

def sE (E : zE) (T : zT) (S : Nat) (cap2 : Int) : zE := if rm (tb (nT T) (mayT T) (tLet T S)) ≤ cap2 then E else (znew (znew E 2 (rm (tb (nT T) (mayT T) (tLet T S))) (rm (tb (nT T) (mayT T) (tLet T S))).toNat) 1 (rm (tb (nT T) (mayT T) (tLet T S))) (rm (tb (nT T) (mayT T) (tLet T S))).toNat)
def sAx (E : zE) (T : zT) (S : Nat) (a2 cap2 : Int) : Int := if rm (tb (nT T) (mayT T) (tLet T S)) ≤ cap2 then a2 else (E.2.1 : Int)
def sC (T : zT) (S : Nat) (cap2 : Int) : Int := if rm (tb (nT T) (mayT T) (tLet T S)) ≤ cap2 then cap2 else rm (tb (nT T) (mayT T) (tLet T S))
theorem sE_le (E : zE) (T : zT) (S : Nat) (cap2 : Int) : E.2.1 ≤ (sE E T S cap2).2.1 ∧ E.2.2 ≤ (sE E T S cap2).2.2 := by
  unfold sE
  split
  · exact ⟨Nat.le_refl _, Nat.le_refl _⟩
  · exact ⟨by show E.2.1 ≤ E.2.1 + 2; omega, by show E.2.2 ≤ E.2.2 + _ + _; omega⟩
theorem EB_s {m : zM} {E : zE} {T : zT} {X : Int → Int} {t s a cap a2 cap2 ka kcap b bcap : Int} (h : cJ m E T X t s a cap a2 cap2 ka kcap b bcap) {S : Nat} : EB (sE E T S cap2) := by
  have h0 := EB_0 h
  have hr := rm_le (tb (nT T) (mayT T) (tLet T S))
  unfold sE
  split
  · exact EB_e h
  · refine ⟨?_, ?_⟩
    · show E.2.1 + 2 ≤ 200000
      omega
    · show E.2.2 + (rm (tb (nT T) (mayT T) (tLet T S))).toNat + (rm (tb (nT T) (mayT T) (tLet T S))).toNat ≤ 2000000
      omega
theorem c_pO (d : Nat) {E : zE} {m : zM} (T : zT) (X : Int → Int) (t s a cap a2 cap2 ka kcap b bcap : Int) (hJ : cJ m E T X t s a cap a2 cap2 ka kcap b bcap) (S : Nat) (hS : S < 256) (hne : ((S : Nat) : Int) ≠ ((tAll T.1 : Nat) : Int)) : zR zX11_pairingsOf (d + 11) [zP 0, zI (S : Nat)] m E (sE E T S cap2) (fun r m' => r = some (zP 11) ∧ cJ m' (sE E T S cap2) T X t s a cap (sAx E T S a2 cap2) (sC T S cap2) ka kcap b bcap ∧ pTb m' 11 (sAx E T S a2 cap2) (nT T) (cOd T.1 T.2.1) (cBr T.1 T.2.1) (tLet T S) (sL T S) 0 ∧ ((sL T S).length : Int) ≤ (sC T S cap2) ∧ qFr m m') := by
  unfold sE sAx sC
  by_cases hr : rm (tb (nT T) (mayT T) (tLet T S)) ≤ cap2
  · rw [if_pos hr, if_pos hr, if_pos hr]
    exact c_pO0 d T X t s a cap a2 cap2 ka kcap b bcap hJ S hS hne hr
  · rw [if_neg hr, if_neg hr, if_neg hr]
    exact c_pOg d T X t s a cap a2 cap2 ka kcap b bcap hJ S hS hne (by omega)

theorem c_pOa (d : Nat) {E : zE} {m : zM} (T : zT) (X : Int → Int) (t s a cap a2 cap2 ka kcap b bcap : Int) (hJ : cJ m E T X t s a cap a2 cap2 ka kcap b bcap) : zR zX11_pairingsOf (d + 12) [zP 0, zI ((tAll T.1 : Nat) : Int)] m E (pE E T cap) (fun r m' => r = some (zP 8) ∧ cJ m' (pE E T cap) T X t s (pAx E T a cap) (pC T cap) a2 cap2 ka kcap b bcap ∧ m' 8 5 = 1 ∧ qFr m m') := by
  have htt := cJ_t hJ
  have le := pE_le E T cap
  refine zR_go [zP 0, zI ((tAll T.1 : Nat) : Int)] (by decide +kernel) (Nat.le_of_ble_eq_true rfl) rfl rfl ?_
  refine z_iload_n dX11_pairingsOf_0 rfl ?_
  refine z_aload_n dX11_pairingsOf_1 rfl ?_
  refine z_gP 9 rfl (r := t) flX11_71 dX11_pairingsOf_2 (sx_0 hJ.2.2.2.2.2.2.2.1.1) rfl (hJ.1.1.2.2.2.2.2.2.2.2.2.1) (by omega) ?_
  refine z_callV mlX11_303 dX11_pairingsOf_5 (sx_T hJ.2.2.2.2.2.2.2.1.1 (cJ_t hJ)).1 (av := _) rfl rfl (Nat.le_of_ble_eq_true rfl) (c_allPoints _ t (cJ_t0 hJ) (sx_T hJ.2.2.2.2.2.2.2.1.1 (cJ_t hJ)) (hJ.1.2.2.2.2.1) T.1 (wfD_of (tA_w hJ.2.2.2.2.2.2.2.2.1)) (hJ.2.1.1)) (Nat.le_refl _) (Nat.le_refl _) (by first | exact Nat.le_refl _ | exact le.1) (by first | exact Nat.le_refl _ | exact le.2) ?_
  rintro _ _ ⟨rfl, rfl⟩
  refine z_icmp_ne (tgt := 16) dX11_pairingsOf_8 rfl (fun h => absurd h (fun h => h rfl)) (fun h8 => ?_)
  refine z_aload_n dX11_pairingsOf_11 rfl ?_
  refine z_callV mlX11_124 dX11_pairingsOf_12 (sx_0 hJ.2.2.2.2.2.2.2.1.1) (av := _) rfl rfl (Nat.le_of_ble_eq_true rfl) (c_kPx d T X t s a cap a2 cap2 ka kcap b bcap hJ) le.1 le.2 (Nat.le_refl _) (Nat.le_refl _) ?_
  rintro _ m1 ⟨rfl, j1, h5, q1, _⟩
  refine z_aret dX11_pairingsOf_15 rfl rfl ?_
  exact ⟨rfl, j1, h5, q1⟩

theorem p_sub0 (d : Nat) {E : zE} {m : zM} (T : zT) (X : Int → Int) (t s a cap a2 cap2 ka kcap b bcap : Int) (hJ : cJ m E T X t s a cap a2 cap2 ka kcap b bcap) (S : Nat) (hS : S < 256) (w : Int) (hok : (0 ≤ ((S : Nat) : Int) ∧ ((S : Nat) : Int) ≤ ((tAll T.1 : Nat) : Int)) ∧ (0 ≤ w ∧ w ≤ 3)) (hw0 : w = 0) : ∃ E1 : zE, (E.2.1 ≤ E1.2.1 ∧ E.2.2 ≤ E1.2.2) ∧ EB E1 ∧ zR zX11_sub (d + 16) [zP 0, zI (S : Nat), zI w] m E E1 (fun r m' => r = some (zI (aSub T (S : Nat) w).2) ∧ cQ m m' E1 T X (aSub T (S : Nat) w).1) := by
  have htt := cJ_t hJ
  have hln := (tA_l hJ.2.2.2.2.2.2.2.2.1).1
  have hni := nT_i hJ.2.2.2.2.2.2.2.2.1
  have le := (⟨Nat.le_refl _, Nat.le_refl _⟩ : E.2.1 ≤ E.2.1 ∧ E.2.2 ≤ E.2.2)
  refine ⟨E, le, EB_e hJ, ?_⟩
  refine zR_go [zP 0, zI (S : Nat), zI w, zN, zN] (by decide +kernel) (Nat.le_of_ble_eq_true rfl) rfl rfl ?_
  refine z_iload_n dX11_sub_0 rfl ?_
  refine z_if_lt (tgt := 24) dX11_sub_1 rfl (fun h => absurd h (by omega)) (fun h1 => ?_)
  refine z_iload_n dX11_sub_4 rfl ?_
  refine z_iconst dX11_sub_5 (by decide) ?_
  refine z_icmp_gt (tgt := 24) dX11_sub_6 rfl (fun h => absurd h (by omega)) (fun h6 => ?_)
  refine z_iload_n dX11_sub_9 rfl ?_
  refine z_if_lt (tgt := 24) dX11_sub_10 rfl (fun h => absurd h (by omega)) (fun h10 => ?_)
  refine z_iload_n dX11_sub_13 rfl ?_
  refine z_aload_n dX11_sub_14 rfl ?_
  refine z_gP 9 rfl (r := t) flX11_71 dX11_sub_15 (sx_0 hJ.2.2.2.2.2.2.2.1.1) rfl (hJ.1.1.2.2.2.2.2.2.2.2.2.1) (by omega) ?_
  refine z_callV mlX11_303 dX11_sub_18 (sx_T hJ.2.2.2.2.2.2.2.1.1 (cJ_t hJ)).1 (av := _) rfl rfl (Nat.le_of_ble_eq_true rfl) (c_allPoints _ t (cJ_t0 hJ) (sx_T hJ.2.2.2.2.2.2.2.1.1 (cJ_t hJ)) (hJ.1.2.2.2.2.1) T.1 (wfD_of (tA_w hJ.2.2.2.2.2.2.2.2.1)) (hJ.2.1.1)) (Nat.le_refl _) (Nat.le_refl _) (by first | exact Nat.le_refl _ | exact le.1) (by first | exact Nat.le_refl _ | exact le.2) ?_
  rintro _ _ ⟨rfl, rfl⟩
  refine z_icmp_le (tgt := 30) dX11_sub_21 rfl (fun h21 => ?_) (fun h => absurd (by omega) h)
  refine z_iload_n dX11_sub_30 rfl ?_
  refine z_if_ne (tgt := 54) dX11_sub_31 rfl (fun h => absurd h (by omega)) (fun h31 => ?_)
  refine z_aload_n dX11_sub_34 rfl ?_
  refine z_aload_n dX11_sub_35 rfl ?_
  refine z_callV mlX11_296 dX11_sub_36 (sx_0 hJ.2.2.2.2.2.2.2.1.1) (av := _) rfl rfl (Nat.le_of_ble_eq_true rfl) (c_knownWays _ T X _ _ _ _ _ _ _ _ _ _ hJ) (Nat.le_refl _) (Nat.le_refl _) (by first | exact Nat.le_refl _ | exact le.1) (by first | exact Nat.le_refl _ | exact le.2) ?_
  rintro _ m1 ⟨rfl, j1, h62, q1, _⟩
  refine z_aload_n dX11_sub_39 rfl ?_
  refine z_gP 9 rfl (r := t) flX11_71 dX11_sub_40 (sx_0 j1.2.2.2.2.2.2.2.1.1) rfl (j1.1.1.2.2.2.2.2.2.2.2.2.1) (by omega) ?_
  refine z_iload_n dX11_sub_43 rfl ?_
  refine z_callV mlX11_306 dX11_sub_44 (sx_T j1.2.2.2.2.2.2.2.1.1 (cJ_t j1)).1 (av := [_]) rfl rfl (Nat.le_of_ble_eq_true rfl) (c_lettersOf _ t (cJ_t0 j1) (sx_T j1.2.2.2.2.2.2.2.1.1 (cJ_t j1)) (j1.1.2.2.2.2.1) T.1 (wfD_of (tA_w j1.2.2.2.2.2.2.2.2.1)) (j1.2.1.1) T.2.1 T.2.2.1 T.2.2.2 (tA_l j1.2.2.2.2.2.2.2.2.1) (j1.2.1.2.1) S hS) (Nat.le_refl _) (Nat.le_refl _) (by first | exact Nat.le_refl _ | exact le.1) (by first | exact Nat.le_refl _ | exact le.2) ?_
  rintro _ _ ⟨rfl, rfl⟩
  refine z_callV mlX11_309 dX11_sub_47 (sx_6 j1.2.2.2.2.2.2.2.1.1) (av := [_]) rfl rfl (Nat.le_of_ble_eq_true rfl) (c_of _ (sx_6 j1.2.2.2.2.2.2.2.1.1) (sx_7 j1.2.2.2.2.2.2.2.1.1) j1.2.2.1.1 (nT T) (tA_n j1.2.2.2.2.2.2.2.2.1) (mayT T) (j1.2.2.1.2.2 h62) (tLet T S) (let_lt T S)) (Nat.le_refl _) (Nat.le_refl _) (by first | exact Nat.le_refl _ | exact le.1) (by first | exact Nat.le_refl _ | exact le.2) ?_
  rintro _ _ ⟨rfl, rfl⟩
  refine z_callV mlX11_111 dX11_sub_50 (sx_0 j1.2.2.2.2.2.2.2.1.1) (av := [_]) rfl rfl (Nat.le_of_ble_eq_true rfl) (c_answer _ (sx_0 j1.2.2.2.2.2.2.2.1.1) _) (Nat.le_refl _) (Nat.le_refl _) (by first | exact Nat.le_refl _ | exact le.1) (by first | exact Nat.le_refl _ | exact le.2) ?_
  rintro _ _ ⟨rfl, rfl⟩
  refine z_iret dX11_sub_53 rfl rfl ?_
  rw [aSub_ok hok, hw0, ← subs_0 T S]
  exact ⟨rfl, cQ_st j1 q1 _⟩

theorem p_sub1a (d : Nat) {E : zE} {m : zM} (T : zT) (X : Int → Int) (t s a cap a2 cap2 ka kcap b bcap : Int) (hJ : cJ m E T X t s a cap a2 cap2 ka kcap b bcap) (w : Int) (hok : (0 ≤ ((tAll T.1 : Nat) : Int) ∧ ((tAll T.1 : Nat) : Int) ≤ ((tAll T.1 : Nat) : Int)) ∧ (0 ≤ w ∧ w ≤ 3)) (hw1 : w = 1) : ∃ E1 : zE, (E.2.1 ≤ E1.2.1 ∧ E.2.2 ≤ E1.2.2) ∧ EB E1 ∧ zR zX11_sub (d + 16) [zP 0, zI ((tAll T.1 : Nat) : Int), zI w] m E E1 (fun r m' => r = some (zI (aSub T ((tAll T.1 : Nat) : Int) w).2) ∧ cQ m m' E1 T X (aSub T ((tAll T.1 : Nat) : Int) w).1) := by
  have htt := cJ_t hJ
  have hln := (tA_l hJ.2.2.2.2.2.2.2.2.1).1
  have hni := nT_i hJ.2.2.2.2.2.2.2.2.1
  have le := pE_le E T cap
  refine ⟨pE E T cap, le, EB_p hJ T, ?_⟩
  refine zR_go [zP 0, zI ((tAll T.1 : Nat) : Int), zI w, zN, zN] (by decide +kernel) (Nat.le_of_ble_eq_true rfl) rfl rfl ?_
  refine z_iload_n dX11_sub_0 rfl ?_
  refine z_if_lt (tgt := 24) dX11_sub_1 rfl (fun h => absurd h (by omega)) (fun h1 => ?_)
  refine z_iload_n dX11_sub_4 rfl ?_
  refine z_iconst dX11_sub_5 (by decide) ?_
  refine z_icmp_gt (tgt := 24) dX11_sub_6 rfl (fun h => absurd h (by omega)) (fun h6 => ?_)
  refine z_iload_n dX11_sub_9 rfl ?_
  refine z_if_lt (tgt := 24) dX11_sub_10 rfl (fun h => absurd h (by omega)) (fun h10 => ?_)
  refine z_iload_n dX11_sub_13 rfl ?_
  refine z_aload_n dX11_sub_14 rfl ?_
  refine z_gP 9 rfl (r := t) flX11_71 dX11_sub_15 (sx_0 hJ.2.2.2.2.2.2.2.1.1) rfl (hJ.1.1.2.2.2.2.2.2.2.2.2.1) (by omega) ?_
  refine z_callV mlX11_303 dX11_sub_18 (sx_T hJ.2.2.2.2.2.2.2.1.1 (cJ_t hJ)).1 (av := _) rfl rfl (Nat.le_of_ble_eq_true rfl) (c_allPoints _ t (cJ_t0 hJ) (sx_T hJ.2.2.2.2.2.2.2.1.1 (cJ_t hJ)) (hJ.1.2.2.2.2.1) T.1 (wfD_of (tA_w hJ.2.2.2.2.2.2.2.2.1)) (hJ.2.1.1)) (Nat.le_refl _) (Nat.le_refl _) (by first | exact Nat.le_refl _ | exact le.1) (by first | exact Nat.le_refl _ | exact le.2) ?_
  rintro _ _ ⟨rfl, rfl⟩
  refine z_icmp_le (tgt := 30) dX11_sub_21 rfl (fun h21 => ?_) (fun h => absurd (by omega) h)
  refine z_iload_n dX11_sub_30 rfl ?_
  refine z_if_ne (tgt := 54) dX11_sub_31 rfl (fun h31 => ?_) (fun h => absurd (by omega) h)
  refine z_iload_n dX11_sub_54 rfl ?_
  refine z_iconst dX11_sub_55 (by decide) ?_
  refine z_icmp_ne (tgt := 72) dX11_sub_56 rfl (fun h => absurd h (by omega)) (fun h56 => ?_)
  refine z_aload_n dX11_sub_59 rfl ?_
  refine z_aload_n dX11_sub_60 rfl ?_
  refine z_iload_n dX11_sub_61 rfl ?_
  refine z_callV mlX11_312 dX11_sub_62 (sx_0 hJ.2.2.2.2.2.2.2.1.1) (av := [_]) rfl rfl (Nat.le_of_ble_eq_true rfl) (c_pOa _ T X _ _ _ _ _ _ _ _ _ _ hJ) (by first | exact Nat.le_refl _ | exact le.1) (by first | exact Nat.le_refl _ | exact le.2) (Nat.le_refl _) (Nat.le_refl _) ?_
  rintro _ m1 ⟨rfl, j1, h5, q1⟩
  refine z_callV mlX11_175 dX11_sub_65 (sx_8 j1.2.2.2.2.2.2.2.1.1) (av := _) rfl rfl (Nat.le_of_ble_eq_true rfl) (x_signs _ T X _ _ _ _ _ _ _ _ _ _ j1 h5 ) (Nat.le_refl _) (Nat.le_refl _) (by first | exact Nat.le_refl _ | exact le.1) (by first | exact Nat.le_refl _ | exact le.2) ?_
  rintro _ _ ⟨rfl, rfl⟩
  refine z_callV mlX11_111 dX11_sub_68 (sx_0 j1.2.2.2.2.2.2.2.1.1) (av := [_]) rfl rfl (Nat.le_of_ble_eq_true rfl) (c_answer _ (sx_0 j1.2.2.2.2.2.2.2.1.1) _) (Nat.le_refl _) (Nat.le_refl _) (by first | exact Nat.le_refl _ | exact le.1) (by first | exact Nat.le_refl _ | exact le.2) ?_
  rintro _ _ ⟨rfl, rfl⟩
  refine z_iret dX11_sub_71 rfl rfl ?_
  rw [aSub_ok hok, hw1, Int.toNat_natCast, subs_all hJ.2.2.2.2.2.2.2.2.1, sub_1]
  exact ⟨rfl, cQ_st j1 q1 _⟩

theorem p_sub1s (d : Nat) {E : zE} {m : zM} (T : zT) (X : Int → Int) (t s a cap a2 cap2 ka kcap b bcap : Int) (hJ : cJ m E T X t s a cap a2 cap2 ka kcap b bcap) (S : Nat) (hS : S < 256) (w : Int) (hok : (0 ≤ ((S : Nat) : Int) ∧ ((S : Nat) : Int) ≤ ((tAll T.1 : Nat) : Int)) ∧ (0 ≤ w ∧ w ≤ 3)) (hw1 : w = 1) (hne : ((S : Nat) : Int) ≠ ((tAll T.1 : Nat) : Int)) : ∃ E1 : zE, (E.2.1 ≤ E1.2.1 ∧ E.2.2 ≤ E1.2.2) ∧ EB E1 ∧ zR zX11_sub (d + 16) [zP 0, zI (S : Nat), zI w] m E E1 (fun r m' => r = some (zI (aSub T (S : Nat) w).2) ∧ cQ m m' E1 T X (aSub T (S : Nat) w).1) := by
  have htt := cJ_t hJ
  have hln := (tA_l hJ.2.2.2.2.2.2.2.2.1).1
  have hni := nT_i hJ.2.2.2.2.2.2.2.2.1
  have le := sE_le E T S cap2
  refine ⟨sE E T S cap2, le, EB_s hJ, ?_⟩
  refine zR_go [zP 0, zI (S : Nat), zI w, zN, zN] (by decide +kernel) (Nat.le_of_ble_eq_true rfl) rfl rfl ?_
  refine z_iload_n dX11_sub_0 rfl ?_
  refine z_if_lt (tgt := 24) dX11_sub_1 rfl (fun h => absurd h (by omega)) (fun h1 => ?_)
  refine z_iload_n dX11_sub_4 rfl ?_
  refine z_iconst dX11_sub_5 (by decide) ?_
  refine z_icmp_gt (tgt := 24) dX11_sub_6 rfl (fun h => absurd h (by omega)) (fun h6 => ?_)
  refine z_iload_n dX11_sub_9 rfl ?_
  refine z_if_lt (tgt := 24) dX11_sub_10 rfl (fun h => absurd h (by omega)) (fun h10 => ?_)
  refine z_iload_n dX11_sub_13 rfl ?_
  refine z_aload_n dX11_sub_14 rfl ?_
  refine z_gP 9 rfl (r := t) flX11_71 dX11_sub_15 (sx_0 hJ.2.2.2.2.2.2.2.1.1) rfl (hJ.1.1.2.2.2.2.2.2.2.2.2.1) (by omega) ?_
  refine z_callV mlX11_303 dX11_sub_18 (sx_T hJ.2.2.2.2.2.2.2.1.1 (cJ_t hJ)).1 (av := _) rfl rfl (Nat.le_of_ble_eq_true rfl) (c_allPoints _ t (cJ_t0 hJ) (sx_T hJ.2.2.2.2.2.2.2.1.1 (cJ_t hJ)) (hJ.1.2.2.2.2.1) T.1 (wfD_of (tA_w hJ.2.2.2.2.2.2.2.2.1)) (hJ.2.1.1)) (Nat.le_refl _) (Nat.le_refl _) (by first | exact Nat.le_refl _ | exact le.1) (by first | exact Nat.le_refl _ | exact le.2) ?_
  rintro _ _ ⟨rfl, rfl⟩
  refine z_icmp_le (tgt := 30) dX11_sub_21 rfl (fun h21 => ?_) (fun h => absurd (by omega) h)
  refine z_iload_n dX11_sub_30 rfl ?_
  refine z_if_ne (tgt := 54) dX11_sub_31 rfl (fun h31 => ?_) (fun h => absurd (by omega) h)
  refine z_iload_n dX11_sub_54 rfl ?_
  refine z_iconst dX11_sub_55 (by decide) ?_
  refine z_icmp_ne (tgt := 72) dX11_sub_56 rfl (fun h => absurd h (by omega)) (fun h56 => ?_)
  refine z_aload_n dX11_sub_59 rfl ?_
  refine z_aload_n dX11_sub_60 rfl ?_
  refine z_iload_n dX11_sub_61 rfl ?_
  refine z_callV mlX11_312 dX11_sub_62 (sx_0 hJ.2.2.2.2.2.2.2.1.1) (av := [_]) rfl rfl (Nat.le_of_ble_eq_true rfl) (c_pO _ T X _ _ _ _ _ _ _ _ _ _ hJ S hS hne) (by first | exact Nat.le_refl _ | exact le.1) (by first | exact Nat.le_refl _ | exact le.2) (Nat.le_refl _) (Nat.le_refl _) ?_
  rintro _ m1 ⟨rfl, j1, hT, hcp, q1⟩
  refine z_callV mlX11_175 dX11_sub_65 (sx_11 j1.2.2.2.2.2.2.2.1.1) (av := _) rfl rfl (Nat.le_of_ble_eq_true rfl) (c_signs _ 11 _ _ (sx_11 j1.2.2.2.2.2.2.2.1.1) j1.2.2.2.2.2.2.2.1.2.2.1.1 j1.2.2.2.2.2.2.2.1.2.2.1.2 (by have := bE_pos j1.2.2.2.2.2.2.2.1; omega) (nT T) (tA_n j1.2.2.2.2.2.2.2.2.1) (mayT T) (cOd T.1 T.2.1) (cBr T.1 T.2.1) (tLet T S) (sL T S) 0 hT (tab_ok (tA_n j1.2.2.2.2.2.2.2.2.1) (let_lt T S)).1 hcp (sL_len j1.2.2.2.2.2.2.2.2.1 S) (by omega)) (Nat.le_refl _) (Nat.le_refl _) (by first | exact Nat.le_refl _ | exact le.1) (by first | exact Nat.le_refl _ | exact le.2) ?_
  rintro _ _ ⟨rfl, rfl⟩
  refine z_callV mlX11_111 dX11_sub_68 (sx_0 j1.2.2.2.2.2.2.2.1.1) (av := [_]) rfl rfl (Nat.le_of_ble_eq_true rfl) (c_answer _ (sx_0 j1.2.2.2.2.2.2.2.1.1) _) (Nat.le_refl _) (Nat.le_refl _) (by first | exact Nat.le_refl _ | exact le.1) (by first | exact Nat.le_refl _ | exact le.2) ?_
  rintro _ _ ⟨rfl, rfl⟩
  refine z_iret dX11_sub_71 rfl rfl ?_
  rw [aSub_ok hok, hw1, Int.toNat_natCast, subs_1 hJ.2.2.2.2.2.2.2.2.1 S]
  exact ⟨rfl, cQ_st j1 q1 _⟩

theorem p_sub2a (d : Nat) {E : zE} {m : zM} (T : zT) (X : Int → Int) (t s a cap a2 cap2 ka kcap b bcap : Int) (hJ : cJ m E T X t s a cap a2 cap2 ka kcap b bcap) (w : Int) (hok : (0 ≤ ((tAll T.1 : Nat) : Int) ∧ ((tAll T.1 : Nat) : Int) ≤ ((tAll T.1 : Nat) : Int)) ∧ (0 ≤ w ∧ w ≤ 3)) (hw2 : 2 ≤ w) : ∃ E1 : zE, (E.2.1 ≤ E1.2.1 ∧ E.2.2 ≤ E1.2.2) ∧ EB E1 ∧ zR zX11_sub (d + 16) [zP 0, zI ((tAll T.1 : Nat) : Int), zI w] m E E1 (fun r m' => r = some (zI (aSub T ((tAll T.1 : Nat) : Int) w).2) ∧ cQ m m' E1 T X (aSub T ((tAll T.1 : Nat) : Int) w).1) := by
  have htt := cJ_t hJ
  have hln := (tA_l hJ.2.2.2.2.2.2.2.2.1).1
  have hni := nT_i hJ.2.2.2.2.2.2.2.2.1
  have le := dE_le E T cap kcap bcap
  refine ⟨dE E T cap kcap bcap, le, EB_d hJ, ?_⟩
  refine zR_go [zP 0, zI ((tAll T.1 : Nat) : Int), zI w, zN, zN] (by decide +kernel) (Nat.le_of_ble_eq_true rfl) rfl rfl ?_
  refine z_iload_n dX11_sub_0 rfl ?_
  refine z_if_lt (tgt := 24) dX11_sub_1 rfl (fun h => absurd h (by omega)) (fun h1 => ?_)
  refine z_iload_n dX11_sub_4 rfl ?_
  refine z_iconst dX11_sub_5 (by decide) ?_
  refine z_icmp_gt (tgt := 24) dX11_sub_6 rfl (fun h => absurd h (by omega)) (fun h6 => ?_)
  refine z_iload_n dX11_sub_9 rfl ?_
  refine z_if_lt (tgt := 24) dX11_sub_10 rfl (fun h => absurd h (by omega)) (fun h10 => ?_)
  refine z_iload_n dX11_sub_13 rfl ?_
  refine z_aload_n dX11_sub_14 rfl ?_
  refine z_gP 9 rfl (r := t) flX11_71 dX11_sub_15 (sx_0 hJ.2.2.2.2.2.2.2.1.1) rfl (hJ.1.1.2.2.2.2.2.2.2.2.2.1) (by omega) ?_
  refine z_callV mlX11_303 dX11_sub_18 (sx_T hJ.2.2.2.2.2.2.2.1.1 (cJ_t hJ)).1 (av := _) rfl rfl (Nat.le_of_ble_eq_true rfl) (c_allPoints _ t (cJ_t0 hJ) (sx_T hJ.2.2.2.2.2.2.2.1.1 (cJ_t hJ)) (hJ.1.2.2.2.2.1) T.1 (wfD_of (tA_w hJ.2.2.2.2.2.2.2.2.1)) (hJ.2.1.1)) (Nat.le_refl _) (Nat.le_refl _) (by first | exact Nat.le_refl _ | exact le.1) (by first | exact Nat.le_refl _ | exact le.2) ?_
  rintro _ _ ⟨rfl, rfl⟩
  refine z_icmp_le (tgt := 30) dX11_sub_21 rfl (fun h21 => ?_) (fun h => absurd (by omega) h)
  refine z_iload_n dX11_sub_30 rfl ?_
  refine z_if_ne (tgt := 54) dX11_sub_31 rfl (fun h31 => ?_) (fun h => absurd (by omega) h)
  refine z_iload_n dX11_sub_54 rfl ?_
  refine z_iconst dX11_sub_55 (by decide) ?_
  refine z_icmp_ne (tgt := 72) dX11_sub_56 rfl (fun h56 => ?_) (fun h => absurd (by omega) h)
  refine z_iload_n dX11_sub_72 rfl ?_
  refine z_iconst dX11_sub_73 (by decide) ?_
  refine z_icmp_ne (tgt := 81) dX11_sub_74 rfl (fun h74 => ?_) (fun h74 => ?_)
  · refine z_iconst dX11_sub_81 (by decide) ?_
    refine z_ist 3 dX11_sub_82 rfl (Nat.le_of_ble_eq_true rfl) ?_
    refine z_iload_n dX11_sub_83 rfl ?_
    refine z_aload_n dX11_sub_84 rfl ?_
    refine z_gP 9 rfl (r := t) flX11_71 dX11_sub_85 (sx_0 hJ.2.2.2.2.2.2.2.1.1) rfl (hJ.1.1.2.2.2.2.2.2.2.2.2.1) (by omega) ?_
    try dsimp only [zs0, zsI, zsP, zsN, zsJ, zsS, zst2, Nat.reduceAdd]
    refine z_callV mlX11_303 dX11_sub_88 (sx_T hJ.2.2.2.2.2.2.2.1.1 (cJ_t hJ)).1 (av := _) rfl rfl (Nat.le_of_ble_eq_true rfl) (c_allPoints _ t (cJ_t0 hJ) (sx_T hJ.2.2.2.2.2.2.2.1.1 (cJ_t hJ)) (hJ.1.2.2.2.2.1) T.1 (wfD_of (tA_w hJ.2.2.2.2.2.2.2.2.1)) (hJ.2.1.1)) (Nat.le_refl _) (Nat.le_refl _) (by first | exact Nat.le_refl _ | exact le.1) (by first | exact Nat.le_refl _ | exact le.2) ?_
    rintro _ _ ⟨rfl, rfl⟩
    refine z_icmp_ne (tgt := 122) dX11_sub_91 rfl (fun h => absurd h (fun h => h rfl)) (fun h91 => ?_)
    refine z_aload_n dX11_sub_94 rfl ?_
    refine z_callV mlX11_142 dX11_sub_95 (sx_0 hJ.2.2.2.2.2.2.2.1.1) (av := _) rfl rfl (Nat.le_of_ble_eq_true rfl) (c_kDx _ T X _ _ _ _ _ _ _ _ _ _ hJ) (by first | exact Nat.le_refl _ | exact le.1) (by first | exact Nat.le_refl _ | exact le.2) (Nat.le_refl _) (Nat.le_refl _) ?_
    rintro _ m1 ⟨rfl, ka1, kc1, b1, bc1, j1, h9, q1⟩
    obtain ⟨⟨D, F, cc, z1, z2, z3⟩, z4⟩ := j1.2.2.2.2.2.1.2.2.2.2.2.2 h9
    refine z_astore dX11_sub_98 (Nat.le_of_ble_eq_true rfl) ?_
    refine z_aload_n dX11_sub_100 rfl ?_
    refine z_iload_n dX11_sub_101 rfl ?_
    try dsimp only [zs0, zsI, zsP, zsN, zsJ, zsS, zst2, Nat.reduceAdd]
    refine z_if_eq (tgt := 113) dX11_sub_102 rfl (fun h102 => ?_) (fun h => absurd rfl h)
    refine z_aload dX11_sub_113 rfl ?_
    refine z_callV mlX11_181 dX11_sub_115 (sx_14 j1.2.2.2.2.2.2.2.1.1) (av := _) rfl rfl (Nat.le_of_ble_eq_true rfl) (c_connectedPairings _ (sx_14 j1.2.2.2.2.2.2.2.1.1) T (tA_w j1.2.2.2.2.2.2.2.2.1) (tA_l j1.2.2.2.2.2.2.2.2.1) (tA_v j1.2.2.2.2.2.2.2.2.1) b1 bc1 j1.2.2.2.2.2.2.2.1.2.2.2.2.1 (by have := bE_pos j1.2.2.2.2.2.2.2.1; omega) (prs_cap j1.2.2.2.2.2.2.2.2.1 z4.2.2) (prs_len j1.2.2.2.2.2.2.2.2.1) (sx_G18 j1.2.2.2.2.2.2.2.1.1) D z1) (Nat.le_refl _) (Nat.le_refl _) (by first | exact Nat.le_refl _ | exact le.1) (by first | exact Nat.le_refl _ | exact le.2) ?_
    rintro _ m2 ⟨rfl, f2, y2⟩
    obtain ⟨j2, q2, h9_⟩ := cJ_sh j1 h9 z2 z3 f2 y2
    refine z_callV mlX11_111 dX11_sub_118 (sx_0 j2.2.2.2.2.2.2.2.1.1) (av := [_]) rfl rfl (Nat.le_of_ble_eq_true rfl) (c_answer _ (sx_0 j2.2.2.2.2.2.2.2.1.1) _) (Nat.le_refl _) (Nat.le_refl _) (by first | exact Nat.le_refl _ | exact le.1) (by first | exact Nat.le_refl _ | exact le.2) ?_
    rintro _ _ ⟨rfl, rfl⟩
    refine z_iret dX11_sub_121 rfl rfl ?_
    have hw2 : w = 3 := by omega
    rw [aSub_ok hok, hw2, Int.toNat_natCast, subs_all hJ.2.2.2.2.2.2.2.2.1, sub_3a hJ.2.2.2.2.2.2.2.2.1, ← (many_is j1 h9).2]
    exact ⟨rfl, cQ_st j2 (qFr_tr q1 q2) _⟩
  · refine z_iconst dX11_sub_77 (by decide) ?_
    refine z_goto (tgt := 82) dX11_sub_78 rfl ?_
    refine z_ist 3 dX11_sub_82 rfl (Nat.le_of_ble_eq_true rfl) ?_
    refine z_iload_n dX11_sub_83 rfl ?_
    refine z_aload_n dX11_sub_84 rfl ?_
    refine z_gP 9 rfl (r := t) flX11_71 dX11_sub_85 (sx_0 hJ.2.2.2.2.2.2.2.1.1) rfl (hJ.1.1.2.2.2.2.2.2.2.2.2.1) (by omega) ?_
    try dsimp only [zs0, zsI, zsP, zsN, zsJ, zsS, zst2, Nat.reduceAdd]
    refine z_callV mlX11_303 dX11_sub_88 (sx_T hJ.2.2.2.2.2.2.2.1.1 (cJ_t hJ)).1 (av := _) rfl rfl (Nat.le_of_ble_eq_true rfl) (c_allPoints _ t (cJ_t0 hJ) (sx_T hJ.2.2.2.2.2.2.2.1.1 (cJ_t hJ)) (hJ.1.2.2.2.2.1) T.1 (wfD_of (tA_w hJ.2.2.2.2.2.2.2.2.1)) (hJ.2.1.1)) (Nat.le_refl _) (Nat.le_refl _) (by first | exact Nat.le_refl _ | exact le.1) (by first | exact Nat.le_refl _ | exact le.2) ?_
    rintro _ _ ⟨rfl, rfl⟩
    refine z_icmp_ne (tgt := 122) dX11_sub_91 rfl (fun h => absurd h (fun h => h rfl)) (fun h91 => ?_)
    refine z_aload_n dX11_sub_94 rfl ?_
    refine z_callV mlX11_142 dX11_sub_95 (sx_0 hJ.2.2.2.2.2.2.2.1.1) (av := _) rfl rfl (Nat.le_of_ble_eq_true rfl) (c_kDx _ T X _ _ _ _ _ _ _ _ _ _ hJ) (by first | exact Nat.le_refl _ | exact le.1) (by first | exact Nat.le_refl _ | exact le.2) (Nat.le_refl _) (Nat.le_refl _) ?_
    rintro _ m1 ⟨rfl, ka1, kc1, b1, bc1, j1, h9, q1⟩
    obtain ⟨⟨D, F, cc, z1, z2, z3⟩, z4⟩ := j1.2.2.2.2.2.1.2.2.2.2.2.2 h9
    refine z_astore dX11_sub_98 (Nat.le_of_ble_eq_true rfl) ?_
    refine z_aload_n dX11_sub_100 rfl ?_
    refine z_iload_n dX11_sub_101 rfl ?_
    try dsimp only [zs0, zsI, zsP, zsN, zsJ, zsS, zst2, Nat.reduceAdd]
    refine z_if_eq (tgt := 113) dX11_sub_102 rfl (fun h => absurd h (by decide)) (fun h102 => ?_)
    refine z_aload dX11_sub_105 rfl ?_
    refine z_callV mlX11_178 dX11_sub_107 (sx_14 j1.2.2.2.2.2.2.2.1.1) (av := _) rfl rfl (Nat.le_of_ble_eq_true rfl) (c_linkedPairings _ (sx_14 j1.2.2.2.2.2.2.2.1.1) T (tA_w j1.2.2.2.2.2.2.2.2.1) (tA_l j1.2.2.2.2.2.2.2.2.1) (tA_v j1.2.2.2.2.2.2.2.2.1) b1 bc1 j1.2.2.2.2.2.2.2.1.2.2.2.2.1 (by have := bE_pos j1.2.2.2.2.2.2.2.1; omega) (prs_cap j1.2.2.2.2.2.2.2.2.1 z4.2.2) (prs_len j1.2.2.2.2.2.2.2.2.1) (sx_G18 j1.2.2.2.2.2.2.2.1.1) D z1) (Nat.le_refl _) (Nat.le_refl _) (by first | exact Nat.le_refl _ | exact le.1) (by first | exact Nat.le_refl _ | exact le.2) ?_
    rintro _ m2 ⟨rfl, f2, y2⟩
    obtain ⟨j2, q2, h9_⟩ := cJ_sh j1 h9 z2 z3 f2 y2
    refine z_goto (tgt := 118) dX11_sub_110 rfl ?_
    refine z_callV mlX11_111 dX11_sub_118 (sx_0 j2.2.2.2.2.2.2.2.1.1) (av := [_]) rfl rfl (Nat.le_of_ble_eq_true rfl) (c_answer _ (sx_0 j2.2.2.2.2.2.2.2.1.1) _) (Nat.le_refl _) (Nat.le_refl _) (by first | exact Nat.le_refl _ | exact le.1) (by first | exact Nat.le_refl _ | exact le.2) ?_
    rintro _ _ ⟨rfl, rfl⟩
    refine z_iret dX11_sub_121 rfl rfl ?_
    have hw2 : w = 2 := by omega
    rw [aSub_ok hok, hw2, Int.toNat_natCast, subs_all hJ.2.2.2.2.2.2.2.2.1, sub_2a hJ.2.2.2.2.2.2.2.2.1, ← (many_is j1 h9).1]
    exact ⟨rfl, cQ_st j2 (qFr_tr q1 q2) _⟩

theorem p_sub2s (d : Nat) {E : zE} {m : zM} (T : zT) (X : Int → Int) (t s a cap a2 cap2 ka kcap b bcap : Int) (hJ : cJ m E T X t s a cap a2 cap2 ka kcap b bcap) (S : Nat) (hS : S < 256) (w : Int) (hok : (0 ≤ ((S : Nat) : Int) ∧ ((S : Nat) : Int) ≤ ((tAll T.1 : Nat) : Int)) ∧ (0 ≤ w ∧ w ≤ 3)) (hw2 : 2 ≤ w) (hne : ((S : Nat) : Int) ≠ ((tAll T.1 : Nat) : Int)) : ∃ E1 : zE, (E.2.1 ≤ E1.2.1 ∧ E.2.2 ≤ E1.2.2) ∧ EB E1 ∧ zR zX11_sub (d + 16) [zP 0, zI (S : Nat), zI w] m E E1 (fun r m' => r = some (zI (aSub T (S : Nat) w).2) ∧ cQ m m' E1 T X (aSub T (S : Nat) w).1) := by
  have htt := cJ_t hJ
  have hln := (tA_l hJ.2.2.2.2.2.2.2.2.1).1
  have hni := nT_i hJ.2.2.2.2.2.2.2.2.1
  have le := sE_le E T S cap2
  refine ⟨sE E T S cap2, le, EB_s hJ, ?_⟩
  refine zR_go [zP 0, zI (S : Nat), zI w, zN, zN] (by decide +kernel) (Nat.le_of_ble_eq_true rfl) rfl rfl ?_
  refine z_iload_n dX11_sub_0 rfl ?_
  refine z_if_lt (tgt := 24) dX11_sub_1 rfl (fun h => absurd h (by omega)) (fun h1 => ?_)
  refine z_iload_n dX11_sub_4 rfl ?_
  refine z_iconst dX11_sub_5 (by decide) ?_
  refine z_icmp_gt (tgt := 24) dX11_sub_6 rfl (fun h => absurd h (by omega)) (fun h6 => ?_)
  refine z_iload_n dX11_sub_9 rfl ?_
  refine z_if_lt (tgt := 24) dX11_sub_10 rfl (fun h => absurd h (by omega)) (fun h10 => ?_)
  refine z_iload_n dX11_sub_13 rfl ?_
  refine z_aload_n dX11_sub_14 rfl ?_
  refine z_gP 9 rfl (r := t) flX11_71 dX11_sub_15 (sx_0 hJ.2.2.2.2.2.2.2.1.1) rfl (hJ.1.1.2.2.2.2.2.2.2.2.2.1) (by omega) ?_
  refine z_callV mlX11_303 dX11_sub_18 (sx_T hJ.2.2.2.2.2.2.2.1.1 (cJ_t hJ)).1 (av := _) rfl rfl (Nat.le_of_ble_eq_true rfl) (c_allPoints _ t (cJ_t0 hJ) (sx_T hJ.2.2.2.2.2.2.2.1.1 (cJ_t hJ)) (hJ.1.2.2.2.2.1) T.1 (wfD_of (tA_w hJ.2.2.2.2.2.2.2.2.1)) (hJ.2.1.1)) (Nat.le_refl _) (Nat.le_refl _) (by first | exact Nat.le_refl _ | exact le.1) (by first | exact Nat.le_refl _ | exact le.2) ?_
  rintro _ _ ⟨rfl, rfl⟩
  refine z_icmp_le (tgt := 30) dX11_sub_21 rfl (fun h21 => ?_) (fun h => absurd (by omega) h)
  refine z_iload_n dX11_sub_30 rfl ?_
  refine z_if_ne (tgt := 54) dX11_sub_31 rfl (fun h31 => ?_) (fun h => absurd (by omega) h)
  refine z_iload_n dX11_sub_54 rfl ?_
  refine z_iconst dX11_sub_55 (by decide) ?_
  refine z_icmp_ne (tgt := 72) dX11_sub_56 rfl (fun h56 => ?_) (fun h => absurd (by omega) h)
  refine z_iload_n dX11_sub_72 rfl ?_
  refine z_iconst dX11_sub_73 (by decide) ?_
  refine z_icmp_ne (tgt := 81) dX11_sub_74 rfl (fun h74 => ?_) (fun h74 => ?_)
  · refine z_iconst dX11_sub_81 (by decide) ?_
    refine z_ist 3 dX11_sub_82 rfl (Nat.le_of_ble_eq_true rfl) ?_
    refine z_iload_n dX11_sub_83 rfl ?_
    refine z_aload_n dX11_sub_84 rfl ?_
    refine z_gP 9 rfl (r := t) flX11_71 dX11_sub_85 (sx_0 hJ.2.2.2.2.2.2.2.1.1) rfl (hJ.1.1.2.2.2.2.2.2.2.2.2.1) (by omega) ?_
    try dsimp only [zs0, zsI, zsP, zsN, zsJ, zsS, zst2, Nat.reduceAdd]
    refine z_callV mlX11_303 dX11_sub_88 (sx_T hJ.2.2.2.2.2.2.2.1.1 (cJ_t hJ)).1 (av := _) rfl rfl (Nat.le_of_ble_eq_true rfl) (c_allPoints _ t (cJ_t0 hJ) (sx_T hJ.2.2.2.2.2.2.2.1.1 (cJ_t hJ)) (hJ.1.2.2.2.2.1) T.1 (wfD_of (tA_w hJ.2.2.2.2.2.2.2.2.1)) (hJ.2.1.1)) (Nat.le_refl _) (Nat.le_refl _) (by first | exact Nat.le_refl _ | exact le.1) (by first | exact Nat.le_refl _ | exact le.2) ?_
    rintro _ _ ⟨rfl, rfl⟩
    refine z_icmp_ne (tgt := 122) dX11_sub_91 rfl (fun h91 => ?_) (fun h => absurd hne h)
    refine z_aload_n dX11_sub_122 rfl ?_
    refine z_aload_n dX11_sub_123 rfl ?_
    refine z_aload_n dX11_sub_124 rfl ?_
    refine z_iload_n dX11_sub_125 rfl ?_
    refine z_callV mlX11_312 dX11_sub_126 (sx_0 hJ.2.2.2.2.2.2.2.1.1) (av := [_]) rfl rfl (Nat.le_of_ble_eq_true rfl) (c_pO _ T X _ _ _ _ _ _ _ _ _ _ hJ S hS hne) (by first | exact Nat.le_refl _ | exact le.1) (by first | exact Nat.le_refl _ | exact le.2) (Nat.le_refl _) (Nat.le_refl _) ?_
    rintro _ m1 ⟨rfl, j1, hT, hcp, q1⟩
    refine z_iload_n dX11_sub_129 rfl ?_
    refine z_iload_n dX11_sub_130 rfl ?_
    refine z_callV mlX11_316 dX11_sub_131 (sx_0 j1.2.2.2.2.2.2.2.1.1) (av := [_, _, _]) rfl rfl (Nat.le_of_ble_eq_true rfl) (c_chang _ T X _ _ _ _ _ _ _ _ _ _ j1 S hS hT hcp 0 3 (by omega)) (Nat.le_refl _) (Nat.le_refl _) (by first | exact Nat.le_refl _ | exact le.1) (by first | exact Nat.le_refl _ | exact le.2) ?_
    rintro _ m2 ⟨rfl, f2⟩
    obtain ⟨j2, q2, _⟩ := cJ_g33 j1 f2
    refine z_callV mlX11_111 dX11_sub_134 (sx_0 j2.2.2.2.2.2.2.2.1.1) (av := [_]) rfl rfl (Nat.le_of_ble_eq_true rfl) (c_answer _ (sx_0 j2.2.2.2.2.2.2.2.1.1) _) (Nat.le_refl _) (Nat.le_refl _) (by first | exact Nat.le_refl _ | exact le.1) (by first | exact Nat.le_refl _ | exact le.2) ?_
    rintro _ _ ⟨rfl, rfl⟩
    refine z_iret dX11_sub_137 rfl rfl ?_
    have hw2 : w = 3 := by omega
    rw [aSub_ok hok, hw2, Int.toNat_natCast]
    exact ⟨rfl, cQ_st j2 (qFr_tr q1 q2) _⟩
  · refine z_iconst dX11_sub_77 (by decide) ?_
    refine z_goto (tgt := 82) dX11_sub_78 rfl ?_
    refine z_ist 3 dX11_sub_82 rfl (Nat.le_of_ble_eq_true rfl) ?_
    refine z_iload_n dX11_sub_83 rfl ?_
    refine z_aload_n dX11_sub_84 rfl ?_
    refine z_gP 9 rfl (r := t) flX11_71 dX11_sub_85 (sx_0 hJ.2.2.2.2.2.2.2.1.1) rfl (hJ.1.1.2.2.2.2.2.2.2.2.2.1) (by omega) ?_
    try dsimp only [zs0, zsI, zsP, zsN, zsJ, zsS, zst2, Nat.reduceAdd]
    refine z_callV mlX11_303 dX11_sub_88 (sx_T hJ.2.2.2.2.2.2.2.1.1 (cJ_t hJ)).1 (av := _) rfl rfl (Nat.le_of_ble_eq_true rfl) (c_allPoints _ t (cJ_t0 hJ) (sx_T hJ.2.2.2.2.2.2.2.1.1 (cJ_t hJ)) (hJ.1.2.2.2.2.1) T.1 (wfD_of (tA_w hJ.2.2.2.2.2.2.2.2.1)) (hJ.2.1.1)) (Nat.le_refl _) (Nat.le_refl _) (by first | exact Nat.le_refl _ | exact le.1) (by first | exact Nat.le_refl _ | exact le.2) ?_
    rintro _ _ ⟨rfl, rfl⟩
    refine z_icmp_ne (tgt := 122) dX11_sub_91 rfl (fun h91 => ?_) (fun h => absurd hne h)
    refine z_aload_n dX11_sub_122 rfl ?_
    refine z_aload_n dX11_sub_123 rfl ?_
    refine z_aload_n dX11_sub_124 rfl ?_
    refine z_iload_n dX11_sub_125 rfl ?_
    refine z_callV mlX11_312 dX11_sub_126 (sx_0 hJ.2.2.2.2.2.2.2.1.1) (av := [_]) rfl rfl (Nat.le_of_ble_eq_true rfl) (c_pO _ T X _ _ _ _ _ _ _ _ _ _ hJ S hS hne) (by first | exact Nat.le_refl _ | exact le.1) (by first | exact Nat.le_refl _ | exact le.2) (Nat.le_refl _) (Nat.le_refl _) ?_
    rintro _ m1 ⟨rfl, j1, hT, hcp, q1⟩
    refine z_iload_n dX11_sub_129 rfl ?_
    refine z_iload_n dX11_sub_130 rfl ?_
    refine z_callV mlX11_316 dX11_sub_131 (sx_0 j1.2.2.2.2.2.2.2.1.1) (av := [_, _, _]) rfl rfl (Nat.le_of_ble_eq_true rfl) (c_chang _ T X _ _ _ _ _ _ _ _ _ _ j1 S hS hT hcp 1 2 (by omega)) (Nat.le_refl _) (Nat.le_refl _) (by first | exact Nat.le_refl _ | exact le.1) (by first | exact Nat.le_refl _ | exact le.2) ?_
    rintro _ m2 ⟨rfl, f2⟩
    obtain ⟨j2, q2, _⟩ := cJ_g33 j1 f2
    refine z_callV mlX11_111 dX11_sub_134 (sx_0 j2.2.2.2.2.2.2.2.1.1) (av := [_]) rfl rfl (Nat.le_of_ble_eq_true rfl) (c_answer _ (sx_0 j2.2.2.2.2.2.2.2.1.1) _) (Nat.le_refl _) (Nat.le_refl _) (by first | exact Nat.le_refl _ | exact le.1) (by first | exact Nat.le_refl _ | exact le.2) ?_
    rintro _ _ ⟨rfl, rfl⟩
    refine z_iret dX11_sub_137 rfl rfl ?_
    have hw2 : w = 2 := by omega
    rw [aSub_ok hok, hw2, Int.toNat_natCast]
    exact ⟨rfl, cQ_st j2 (qFr_tr q1 q2) _⟩

theorem p_subr (d : Nat) {E : zE} {m : zM} (T : zT) (X : Int → Int) (t s a cap a2 cap2 ka kcap b bcap : Int) (hJ : cJ m E T X t s a cap a2 cap2 ka kcap b bcap) (s0 w : Int) (hc0 : ¬ ((0 ≤ s0 ∧ s0 ≤ ((tAll T.1 : Nat) : Int)) ∧ (0 ≤ w ∧ w ≤ 3))) : ∃ E1 : zE, (E.2.1 ≤ E1.2.1 ∧ E.2.2 ≤ E1.2.2) ∧ EB E1 ∧ zR zX11_sub (d + 16) [zP 0, zI s0, zI w] m E E1 (fun r m' => r = some (zI (aSub T s0 w).2) ∧ cQ m m' E1 T X (aSub T s0 w).1) := by
  have htt := cJ_t hJ
  have hln := (tA_l hJ.2.2.2.2.2.2.2.2.1).1
  have hni := nT_i hJ.2.2.2.2.2.2.2.2.1
  refine ⟨E, ⟨Nat.le_refl _, Nat.le_refl _⟩, EB_e hJ, ?_⟩
  refine zR_go [zP 0, zI s0, zI w, zN, zN] (by decide +kernel) (Nat.le_of_ble_eq_true rfl) rfl rfl ?_
  refine z_iload_n dX11_sub_0 rfl ?_
  refine z_if_lt (tgt := 24) dX11_sub_1 rfl (fun h1 => ?_) (fun h1 => ?_)
  · refine z_aload_n dX11_sub_24 rfl ?_
    refine z_iconst dX11_sub_25 (by decide) ?_
    refine z_callV mlX11_93 dX11_sub_26 (sx_0 hJ.2.2.2.2.2.2.2.1.1) (av := [_]) rfl rfl (Nat.le_of_ble_eq_true rfl) (c_refuse _ (sx_0 hJ.2.2.2.2.2.2.2.1.1) _) (Nat.le_refl _) (Nat.le_refl _) (by first | exact Nat.le_refl _ | exact le.1) (by first | exact Nat.le_refl _ | exact le.2) ?_
    rintro _ _ ⟨rfl, rfl⟩
    refine z_iret dX11_sub_29 rfl rfl ?_
    rw [show aSub T s0 w = (1, -1) from by unfold aSub; rw [if_pos hc0]]
    exact ⟨rfl, cQ_st hJ qFr_rf _⟩
  · refine z_iload_n dX11_sub_4 rfl ?_
    refine z_iconst dX11_sub_5 (by decide) ?_
    refine z_icmp_gt (tgt := 24) dX11_sub_6 rfl (fun h6 => ?_) (fun h6 => ?_)
    · refine z_aload_n dX11_sub_24 rfl ?_
      refine z_iconst dX11_sub_25 (by decide) ?_
      refine z_callV mlX11_93 dX11_sub_26 (sx_0 hJ.2.2.2.2.2.2.2.1.1) (av := [_]) rfl rfl (Nat.le_of_ble_eq_true rfl) (c_refuse _ (sx_0 hJ.2.2.2.2.2.2.2.1.1) _) (Nat.le_refl _) (Nat.le_refl _) (by first | exact Nat.le_refl _ | exact le.1) (by first | exact Nat.le_refl _ | exact le.2) ?_
      rintro _ _ ⟨rfl, rfl⟩
      refine z_iret dX11_sub_29 rfl rfl ?_
      rw [show aSub T s0 w = (1, -1) from by unfold aSub; rw [if_pos hc0]]
      exact ⟨rfl, cQ_st hJ qFr_rf _⟩
    · refine z_iload_n dX11_sub_9 rfl ?_
      refine z_if_lt (tgt := 24) dX11_sub_10 rfl (fun h10 => ?_) (fun h10 => ?_)
      · refine z_aload_n dX11_sub_24 rfl ?_
        refine z_iconst dX11_sub_25 (by decide) ?_
        refine z_callV mlX11_93 dX11_sub_26 (sx_0 hJ.2.2.2.2.2.2.2.1.1) (av := [_]) rfl rfl (Nat.le_of_ble_eq_true rfl) (c_refuse _ (sx_0 hJ.2.2.2.2.2.2.2.1.1) _) (Nat.le_refl _) (Nat.le_refl _) (by first | exact Nat.le_refl _ | exact le.1) (by first | exact Nat.le_refl _ | exact le.2) ?_
        rintro _ _ ⟨rfl, rfl⟩
        refine z_iret dX11_sub_29 rfl rfl ?_
        rw [show aSub T s0 w = (1, -1) from by unfold aSub; rw [if_pos hc0]]
        exact ⟨rfl, cQ_st hJ qFr_rf _⟩
      · refine z_iload_n dX11_sub_13 rfl ?_
        refine z_aload_n dX11_sub_14 rfl ?_
        refine z_gP 9 rfl (r := t) flX11_71 dX11_sub_15 (sx_0 hJ.2.2.2.2.2.2.2.1.1) rfl (hJ.1.1.2.2.2.2.2.2.2.2.2.1) (by omega) ?_
        refine z_callV mlX11_303 dX11_sub_18 (sx_T hJ.2.2.2.2.2.2.2.1.1 (cJ_t hJ)).1 (av := _) rfl rfl (Nat.le_of_ble_eq_true rfl) (c_allPoints _ t (cJ_t0 hJ) (sx_T hJ.2.2.2.2.2.2.2.1.1 (cJ_t hJ)) (hJ.1.2.2.2.2.1) T.1 (wfD_of (tA_w hJ.2.2.2.2.2.2.2.2.1)) (hJ.2.1.1)) (Nat.le_refl _) (Nat.le_refl _) (by first | exact Nat.le_refl _ | exact le.1) (by first | exact Nat.le_refl _ | exact le.2) ?_
        rintro _ _ ⟨rfl, rfl⟩
        refine z_icmp_le (tgt := 30) dX11_sub_21 rfl (fun h => absurd h (by omega)) (fun h21 => ?_)
        refine z_aload_n dX11_sub_24 rfl ?_
        refine z_iconst dX11_sub_25 (by decide) ?_
        refine z_callV mlX11_93 dX11_sub_26 (sx_0 hJ.2.2.2.2.2.2.2.1.1) (av := [_]) rfl rfl (Nat.le_of_ble_eq_true rfl) (c_refuse _ (sx_0 hJ.2.2.2.2.2.2.2.1.1) _) (Nat.le_refl _) (Nat.le_refl _) (by first | exact Nat.le_refl _ | exact le.1) (by first | exact Nat.le_refl _ | exact le.2) ?_
        rintro _ _ ⟨rfl, rfl⟩
        refine z_iret dX11_sub_29 rfl rfl ?_
        rw [show aSub T s0 w = (1, -1) from by unfold aSub; rw [if_pos hc0]]
        exact ⟨rfl, cQ_st hJ qFr_rf _⟩

theorem p_sub (d : Nat) {E : zE} {m : zM} (T : zT) (X : Int → Int) (t s a cap a2 cap2 ka kcap b bcap : Int) (hJ : cJ m E T X t s a cap a2 cap2 ka kcap b bcap) (s0 w : Int) : ∃ E1 : zE, (E.2.1 ≤ E1.2.1 ∧ E.2.2 ≤ E1.2.2) ∧ EB E1 ∧ zR zX11_sub (d + 16) [zP 0, zI s0, zI w] m E E1 (fun r m' => r = some (zI (aSub T s0 w).2) ∧ cQ m m' E1 T X (aSub T s0 w).1) := by
  by_cases hc : (0 ≤ s0 ∧ s0 ≤ ((tAll T.1 : Nat) : Int)) ∧ (0 ≤ w ∧ w ≤ 3)
  · obtain ⟨S, rfl⟩ := Int.eq_ofNat_of_zero_le hc.1.1
    have hS : S < 256 := by have := tAll_lt (tA_w hJ.2.2.2.2.2.2.2.2.1); omega
    by_cases w0 : w = 0
    · exact p_sub0 d T X t s a cap a2 cap2 ka kcap b bcap hJ S hS w hc w0
    · by_cases hne : ((S : Nat) : Int) = ((tAll T.1 : Nat) : Int)
      · have e : S = tAll T.1 := by omega
        subst e
        by_cases w1 : w = 1
        · exact p_sub1a d T X t s a cap a2 cap2 ka kcap b bcap hJ w hc w1
        · exact p_sub2a d T X t s a cap a2 cap2 ka kcap b bcap hJ w hc (by omega)
      · by_cases w1 : w = 1
        · exact p_sub1s d T X t s a cap a2 cap2 ka kcap b bcap hJ S hS w hc w1 hne
        · exact p_sub2s d T X t s a cap a2 cap2 ka kcap b bcap hJ S hS w hc (by omega) hne
  · exact p_subr d T X t s a cap a2 cap2 ka kcap b bcap hJ s0 w hc
